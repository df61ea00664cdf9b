import java.util.ArrayList;
import java.util.List;
import java.util.Random;

/**
 * Compares CraneTurns with a slow second writing of the document, call by call, over runs that a
 * fixed seed makes. The model keeps no bound while it plans and leaves out no way.
 */
public final class ModelTest {
    private static final int RUNS = 400;
    private static final int MOST_PLANS = 300;

    private static int plans = 0;
    private static int found = 0;

    private static final class Job {
        int from;
        int to;
        int ready;
        String is = "free";
        int crane = -1;
        int done = -1;

        Job copy() {
            Job c = new Job();
            c.from = from;
            c.to = to;
            c.ready = ready;
            c.is = is;
            c.crane = crane;
            c.done = done;
            return c;
        }
    }

    private static final class Crane {
        int place;
        int low = 0;
        int high = 200;
        boolean broken;
        List<Integer> given = new ArrayList<>();
        Integer hand;
        Integer goal;
        boolean lifted;
        int left;
        int work;
        int blocked;
        int idle;
        int out;

        Crane copy() {
            Crane c = new Crane();
            c.place = place;
            c.low = low;
            c.high = high;
            c.broken = broken;
            c.given = new ArrayList<>(given);
            c.hand = hand;
            c.goal = goal;
            c.lifted = lifted;
            c.left = left;
            c.work = work;
            c.blocked = blocked;
            c.idle = idle;
            c.out = out;
            return c;
        }

        int does() {
            if (hand == null) {
                return 0;
            }
            if (lifted) {
                return goal != null ? 3 : 4;
            }
            return goal != null ? 1 : 2;
        }
    }

    private static final class Model {
        List<Crane> cranes = new ArrayList<>();
        List<Job> jobs = new ArrayList<>();
        int gap;
        int speed;
        int lift;
        int clock;
        int near = 200;
        boolean ever;
        List<Integer> plan = new ArrayList<>();

        Model copy() {
            Model m = new Model();
            for (Crane c : cranes) {
                m.cranes.add(c.copy());
            }
            for (Job j : jobs) {
                m.jobs.add(j.copy());
            }
            m.gap = gap;
            m.speed = speed;
            m.lift = lift;
            m.clock = clock;
            m.near = near;
            return m;
        }

        void index(boolean good) {
            if (!good) {
                throw new IndexOutOfBoundsException();
            }
        }

        void turn(boolean good) {
            if (!good) {
                throw new IllegalStateException();
            }
        }

        void range(boolean good) {
            if (!good) {
                throw new IllegalArgumentException();
            }
        }

        void meaning(boolean good) {
            if (!good) {
                throw new UnsupportedOperationException();
            }
        }

        boolean isCrane(int c) {
            return c >= 0 && c < cranes.size();
        }

        boolean isJob(int j) {
            return j >= 0 && j < jobs.size();
        }

        boolean has(Crane c, int place) {
            return c.low <= place && place <= c.high;
        }

        boolean keepsGaps() {
            for (int c = 0; c + 1 < cranes.size(); c++) {
                if (cranes.get(c).place + gap > cranes.get(c + 1).place) {
                    return false;
                }
            }
            return true;
        }

        void track(int n, int g, int s, int l) {
            turn(cranes.isEmpty());
            range(n >= 1 && n <= 3 && g >= 1 && g <= 30 && s >= 1 && s <= 20 && l >= 1 && l <= 30);
            gap = g;
            speed = s;
            lift = l;
            for (int c = 0; c < n; c++) {
                cranes.add(new Crane());
                cranes.get(c).place = c * g;
            }
        }

        void crane(int c, int place, int low, int high) {
            index(isCrane(c));
            turn(clock == 0 && !ever);
            range(0 <= low && low <= place && place <= high && high <= 200);
            int old = cranes.get(c).place;
            cranes.get(c).place = place;
            if (!keepsGaps()) {
                cranes.get(c).place = old;
                meaning(false);
            }
            cranes.get(c).low = low;
            cranes.get(c).high = high;
        }

        int job(int from, int to, int ready) {
            turn(!cranes.isEmpty());
            range(from >= 0 && from <= 200 && to >= 0 && to <= 200 && ready >= 0 && ready <= 5000);
            meaning(jobs.size() < 8);
            Job j = new Job();
            j.from = from;
            j.to = to;
            j.ready = ready;
            jobs.add(j);
            return jobs.size() - 1;
        }

        void give(int j, int c) {
            index(isJob(j) && isCrane(c));
            turn(jobs.get(j).is.equals("free"));
            meaning(has(cranes.get(c), jobs.get(j).from) && has(cranes.get(c), jobs.get(j).to));
            jobs.get(j).is = "given";
            jobs.get(j).crane = c;
            cranes.get(c).given.add(j);
            ever = true;
        }

        void take(int j) {
            index(isJob(j));
            turn(jobs.get(j).is.equals("given"));
            cranes.get(jobs.get(j).crane).given.remove(Integer.valueOf(j));
            jobs.get(j).is = "free";
            jobs.get(j).crane = -1;
        }

        void broken(int c, boolean on) {
            index(isCrane(c));
            turn(cranes.get(c).broken != on);
            cranes.get(c).broken = on;
        }

        int run(int seconds) {
            turn(!cranes.isEmpty());
            range(seconds >= 0 && seconds <= 1000 && clock + seconds <= 100000);
            for (int s = 0; s < seconds; s++) {
                second();
            }
            return clock;
        }

        void second() {
            for (int c = 0; c < cranes.size(); c++) {
                secondOf(c);
            }
            clock++;
            for (int c = 0; c + 1 < cranes.size(); c++) {
                near = Math.min(near, Math.abs(cranes.get(c).place - cranes.get(c + 1).place));
            }
        }

        void secondOf(int c) {
            Crane me = cranes.get(c);
            if (me.broken) {
                me.out++;
                return;
            }
            if (me.hand == null && !me.given.isEmpty() && jobs.get(me.given.get(0)).ready <= clock) {
                me.hand = me.given.remove(0);
                jobs.get(me.hand).is = "at hand";
                me.lifted = false;
                aim(me, jobs.get(me.hand).from);
            }
            if (me.hand == null) {
                giveWay(c);
                me.idle++;
            } else if (me.goal != null) {
                int old = me.place;
                walk(c, me.goal, 0, 200);
                if (me.place == me.goal) {
                    aim(me, me.place);
                }
                if (me.place == old) {
                    me.blocked++;
                } else {
                    me.work++;
                }
            } else {
                me.work++;
                me.left--;
                if (me.left == 0 && !me.lifted) {
                    me.lifted = true;
                    aim(me, jobs.get(me.hand).to);
                } else if (me.left == 0) {
                    jobs.get(me.hand).is = "done";
                    jobs.get(me.hand).done = clock + 1;
                    me.hand = null;
                }
            }
        }

        void aim(Crane me, int place) {
            me.goal = me.place == place ? null : place;
            me.left = lift;
        }

        void giveWay(int c) {
            Crane me = cranes.get(c);
            Integer below = c == 0 ? null : cranes.get(c - 1).goal;
            Integer above = c == cranes.size() - 1 ? null : cranes.get(c + 1).goal;
            if (below != null && below > me.place - gap) {
                walk(c, below + gap, me.low, me.high);
            } else if (above != null && above < me.place + gap) {
                walk(c, above - gap, me.low, me.high);
            }
        }

        /** Place by place, so that no limit is worked out ahead. */
        void walk(int c, int toward, int low, int high) {
            Crane me = cranes.get(c);
            for (int i = 0; i < speed; i++) {
                int old = me.place;
                me.place += Integer.signum(toward - me.place);
                if (!keepsGaps() || me.place < low || me.place > high) {
                    me.place = old;
                }
            }
        }

        int at(int c, int what) {
            index(isCrane(c) && what >= 0 && what <= 7);
            Crane x = cranes.get(c);
            int hand = x.hand == null ? -1 : x.hand;
            return new int[] {x.place, hand, x.given.size(), x.work, x.blocked, x.idle, x.out, x.does()}[what];
        }

        int state(int j, int what) {
            index(isJob(j) && what >= 0 && what <= 2);
            Job x = jobs.get(j);
            int is = List.of("free", "given", "at hand", "done").indexOf(x.is);
            return new int[] {is, x.crane, x.done}[what];
        }

        List<Integer> free() {
            List<Integer> free = new ArrayList<>();
            for (int j = 0; j < jobs.size(); j++) {
                if (jobs.get(j).is.equals("free")) {
                    free.add(j);
                }
            }
            return free;
        }

        int plan(int seconds) {
            turn(!cranes.isEmpty());
            range(seconds >= 1 && seconds <= 300);
            meaning(free().size() <= 4);
            List<List<Integer>> ways = new ArrayList<>();
            ways(free(), new ArrayList<>(), ways);
            int best = -1;
            plan = new ArrayList<>();
            for (List<Integer> way : ways) {
                int took = took(way, seconds);
                if (took >= 0 && (best < 0 || took < best)) {
                    best = took;
                    plan = way;
                }
            }
            return best;
        }

        void ways(List<Integer> rest, List<Integer> way, List<List<Integer>> ways) {
            if (rest.isEmpty()) {
                ways.add(new ArrayList<>(way));
                return;
            }
            for (Integer j : rest) {
                List<Integer> others = new ArrayList<>(rest);
                others.remove(j);
                for (int c = 0; c < cranes.size(); c++) {
                    if (has(cranes.get(c), jobs.get(j).from) && has(cranes.get(c), jobs.get(j).to)) {
                        way.add(10 * j + c);
                        ways(others, way, ways);
                        way.remove(way.size() - 1);
                    }
                }
            }
        }

        int took(List<Integer> way, int seconds) {
            Model m = copy();
            for (int giving : way) {
                m.give(giving / 10, giving % 10);
            }
            for (int s = 0; s <= seconds; s++) {
                if (m.jobs.stream().allMatch(j -> j.is.equals("done"))) {
                    return s;
                }
                m.second();
            }
            return -1;
        }

        int planned(int k) {
            index(k >= 0);
            return k < plan.size() ? plan.get(k) : -1;
        }
    }

    private interface Call {
        int on(CraneTurns x, Model m);
    }

    private static String answer(Call call, CraneTurns x, Model m) {
        try {
            return Integer.toString(call.on(x, m));
        } catch (RuntimeException e) {
            return "throws." + e.getClass().getSimpleName();
        }
    }

    private static boolean same(String what, Call call, CraneTurns x, Model m) {
        String got = answer(call, x, null);
        String want = answer(call, null, m);
        if (what.startsWith("plan(") && !want.startsWith("throws")) {
            plans++;
            found += want.equals("-1") ? 0 : 1;
        }
        if (!got.equals(want)) {
            System.out.println(what + " answered " + got + ", due is " + want);
        }
        return got.equals(want);
    }

    /** Compares all that the object tells of itself. */
    private static boolean sameAll(CraneTurns x, Model m) {
        boolean good = same("near()", (a, b) -> a != null ? a.near() : b.near, x, m);
        for (int c = -1; c <= 3; c++) {
            for (int w = -1; w <= 8; w++) {
                int p = c;
                int q = w;
                good &= same("at(" + p + ", " + q + ")",
                        (a, b) -> a != null ? a.at(p, q) : b.at(p, q), x, m);
            }
        }
        for (int j = -1; j <= 8; j++) {
            for (int w = -1; w <= 3; w++) {
                int p = j;
                int q = w;
                good &= same("state(" + p + ", " + q + ")",
                        (a, b) -> a != null ? a.state(p, q) : b.state(p, q), x, m);
            }
        }
        for (int k = -1; k <= 4; k++) {
            int p = k;
            good &= same("planned(" + p + ")", (a, b) -> a != null ? a.planned(p) : b.planned(p), x, m);
        }
        return good;
    }

    private static int between(Random r, int low, int high) {
        return low + r.nextInt(high - low + 1);
    }

    private static boolean step(Random r, CraneTurns x, Model m, StringBuilder told) {
        int p = r.nextInt(10) == 0 ? between(r, -1, 8) : between(r, 0, Math.max(0, m.jobs.size() - 1));
        int c = r.nextInt(10) == 0 ? between(r, -1, 3) : between(r, 0, Math.max(0, m.cranes.size() - 1));
        String what;
        Call call;
        int kind = r.nextInt(20);
        if (kind == 0) {
            boolean on = r.nextInt(3) > 0;
            what = "broken(" + c + ", " + on + ")";
            call = (a, b) -> {
                if (a != null) {
                    a.broken(c, on);
                } else {
                    b.broken(c, on);
                }
                return 0;
            };
        } else if (kind == 1) {
            what = "broken(" + c + ", false)";
            call = (a, b) -> {
                if (a != null) {
                    a.broken(c, false);
                } else {
                    b.broken(c, false);
                }
                return 0;
            };
        } else if (kind <= 4) {
            int place = between(r, -1, 201);
            int low = r.nextInt(3) == 0 ? between(r, -1, 201) : Math.max(0, place - r.nextInt(120));
            int high = r.nextInt(3) == 0 ? between(r, -1, 201) : Math.min(200, place + r.nextInt(120));
            what = "crane(" + c + ", " + place + ", " + low + ", " + high + ")";
            call = (a, b) -> {
                if (a != null) {
                    a.crane(c, place, low, high);
                } else {
                    b.crane(c, place, low, high);
                }
                return 0;
            };
        } else if (kind <= 7) {
            int from = between(r, r.nextInt(20) == 0 ? -1 : 0, r.nextInt(20) == 0 ? 201 : 200);
            int to = r.nextInt(6) == 0 ? from : between(r, 0, 200);
            int ready = r.nextInt(3) > 0 ? 0 : r.nextInt(20) == 0 ? between(r, -1, 5001) : m.clock + r.nextInt(60);
            what = "job(" + from + ", " + to + ", " + ready + ")";
            call = (a, b) -> a != null ? a.job(from, to, ready) : b.job(from, to, ready);
        } else if (kind <= 11) {
            what = "give(" + p + ", " + c + ")";
            call = (a, b) -> {
                if (a != null) {
                    a.give(p, c);
                } else {
                    b.give(p, c);
                }
                return 0;
            };
        } else if (kind == 12) {
            what = "take(" + p + ")";
            call = (a, b) -> {
                if (a != null) {
                    a.take(p);
                } else {
                    b.take(p);
                }
                return 0;
            };
        } else if (kind == 13 && plans < MOST_PLANS) {
            int seconds = r.nextInt(10) == 0 ? between(r, -1, 301) : between(r, 100, 300);
            what = "plan(" + seconds + ")";
            call = (a, b) -> a != null ? a.plan(seconds) : b.plan(seconds);
        } else {
            int seconds = r.nextInt(30) == 0 ? between(r, -1, 1001) : between(r, 0, 12);
            what = "run(" + seconds + ")";
            call = (a, b) -> a != null ? a.run(seconds) : b.run(seconds);
        }
        told.append("; ").append(what);
        return same(what, call, x, m) && sameAll(x, m);
    }

    private static boolean sameRun(int seed) {
        Random r = new Random(seed);
        CraneTurns x = new CraneTurns();
        Model m = new Model();
        StringBuilder told = new StringBuilder();
        boolean good = sameAll(x, m);
        for (int i = 0; i < 90 && good; i++) {
            if (i == 1 || r.nextInt(60) == 0) {
                int n = r.nextInt(20) == 0 ? between(r, 0, 4) : between(r, 2, 3);
                int g = r.nextInt(20) == 0 ? between(r, 0, 31) : between(r, 1, 30);
                int s = r.nextInt(20) == 0 ? between(r, 0, 21) : between(r, 3, 20);
                int l = r.nextInt(20) == 0 ? between(r, 0, 31) : between(r, 1, 6);
                String what = "track(" + n + ", " + g + ", " + s + ", " + l + ")";
                told.append("; ").append(what);
                good = same(what, (a, b) -> {
                    if (a != null) {
                        a.track(n, g, s, l);
                    } else {
                        b.track(n, g, s, l);
                    }
                    return 0;
                }, x, m) && sameAll(x, m);
            } else {
                good = step(r, x, m, told);
            }
        }
        if (!good) {
            System.out.println("seed " + seed + told);
        }
        return good;
    }

    public static void main(String[] args) {
        int wrong = 0;
        for (int seed = 0; seed < RUNS; seed++) {
            wrong += sameRun(seed) ? 0 : 1;
        }
        System.out.println(RUNS + " runs with " + plans + " plans, " + found + " of them found: "
                + wrong + " not as due");
        if (wrong != 0) {
            System.exit(1);
        }
    }
}
