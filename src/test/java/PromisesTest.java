/** Each promise by hand-worked runs: ordinary inputs, the edges that the document names, wrong inputs. */
public final class PromisesTest {
    private static final String INDEX = "throws.IndexOutOfBoundsException";
    private static final String TURN = "throws.IllegalStateException";
    private static final String RANGE = "throws.IllegalArgumentException";
    private static final String MEANING = "throws.UnsupportedOperationException";
    private static final String OK = "ok";

    private static int wrong = 0;
    private static int asked = 0;

    private interface Answer {
        int get();
    }

    private interface Act {
        void go();
    }

    public static void main(String[] args) {
        newObject();
        track();
        crane();
        craneTurn();
        job();
        give();
        giveKeepsOrder();
        take();
        broken();
        brokenHoldsTheLoad();
        run();
        oneJobSecondBySecond();
        jobThatIsThere();
        readySecond();
        blockedByABrokenNeighbour();
        movesUpToTheGap();
        givesWayUp();
        givesWayDown();
        givesWayToTheLowerNeighbourFirst();
        givesWayOnlyToGoals();
        givesWayWithinItsReach();
        at();
        sharesSum();
        state();
        near();
        plan();
        planLeavesAllAsItIs();
        planCountsJobsThatAreGiven();
        planWithBrokenCrane();
        planFirstOfTheLeast();
        planOrderOfOneCrane();
        planned();
        System.out.println(wrong == 0 ? asked + " answers are as due" : wrong + " answers are not as due");
        if (wrong != 0) {
            System.exit(1);
        }
    }

    private static void due(String call, String want, String got) {
        asked++;
        if (!want.equals(got)) {
            wrong++;
            System.out.println(call + " answered " + got + ", due is " + want);
        }
    }

    private static void due(String call, String want, Act act) {
        String got = OK;
        try {
            act.go();
        } catch (RuntimeException e) {
            got = "throws." + e.getClass().getSimpleName();
        }
        due(call, want, got);
    }

    private static void dueInt(String call, String want, Answer answer) {
        String got;
        try {
            got = Integer.toString(answer.get());
        } catch (RuntimeException e) {
            got = "throws." + e.getClass().getSimpleName();
        }
        due(call, want, got);
    }

    private static void dueInt(String call, int want, Answer answer) {
        dueInt(call, Integer.toString(want), answer);
    }

    private static void duePlaces(String when, CraneTurns x, int... places) {
        for (int c = 0; c < places.length; c++) {
            int crane = c;
            dueInt(when + ": at(" + c + ", 0)", places[c], () -> x.at(crane, 0));
        }
    }

    private static CraneTurns made(int cranes, int gap, int speed, int lift) {
        CraneTurns x = new CraneTurns();
        x.track(cranes, gap, speed, lift);
        return x;
    }

    // Promise 1

    private static void newObject() {
        CraneTurns x = new CraneTurns();
        due("new: crane", INDEX, () -> x.crane(0, 0, 0, 0));
        dueInt("new: job", TURN, () -> x.job(0, 0, 0));
        dueInt("new: job, wrong place", TURN, () -> x.job(-1, 0, 0));
        due("new: give", INDEX, () -> x.give(0, 0));
        due("new: take", INDEX, () -> x.take(0));
        due("new: broken", INDEX, () -> x.broken(0, true));
        dueInt("new: run", TURN, () -> x.run(0));
        dueInt("new: run, wrong seconds", TURN, () -> x.run(-1));
        dueInt("new: at", INDEX, () -> x.at(0, 0));
        dueInt("new: state", INDEX, () -> x.state(0, 0));
        dueInt("new: near", 200, x::near);
        dueInt("new: plan", TURN, () -> x.plan(1));
        dueInt("new: plan, wrong seconds", TURN, () -> x.plan(0));
        dueInt("new: planned(0)", -1, () -> x.planned(0));
        dueInt("new: planned(-1)", INDEX, () -> x.planned(-1));
    }

    // Promise 2

    private static void track() {
        CraneTurns x = new CraneTurns();
        int[][] bad = {
            {0, 1, 1, 1}, {4, 1, 1, 1}, {1, 0, 1, 1}, {1, 31, 1, 1}, {1, 1, 0, 1}, {1, 1, 21, 1},
            {1, 1, 1, 0}, {1, 1, 1, 31}, {-1, 1, 1, 1}, {1, 1, 1, Integer.MIN_VALUE},
            {Integer.MAX_VALUE, 1, 1, 1}, {3, Integer.MAX_VALUE, 1, 1},
        };
        for (int[] b : bad) {
            due("bad track", RANGE, () -> x.track(b[0], b[1], b[2], b[3]));
            dueInt("no track of a refused one", TURN, () -> x.run(0));
        }
        due("track", OK, () -> x.track(3, 7, 20, 30));
        duePlaces("track", x, 0, 7, 14);
        due("track again", TURN, () -> x.track(3, 7, 20, 30));
        due("track again, wrong", TURN, () -> x.track(0, 0, 0, 0));
        dueInt("no crane 3", INDEX, () -> x.at(3, 0));
        x.job(0, 200, 0);
        for (int c = 0; c < 3; c++) {
            int crane = c;
            due("reach from 0 to 200", OK, () -> x.give(0, crane));
            x.take(0);
        }
        due("least of all", OK, () -> new CraneTurns().track(1, 1, 1, 1));
        CraneTurns most = made(3, 30, 20, 30);
        duePlaces("most of all", most, 0, 30, 60);
        CraneTurns two = made(2, 5, 1, 1);
        duePlaces("two", two, 0, 5);
        dueInt("no crane 2", INDEX, () -> two.at(2, 0));
    }

    // Promise 3

    private static void crane() {
        CraneTurns x = made(3, 10, 5, 2);
        due("crane 2", OK, () -> x.crane(2, 100, 50, 150));
        due("crane 1", OK, () -> x.crane(1, 60, 60, 60));
        due("crane 0", OK, () -> x.crane(0, 0, 0, 200));
        due("no crane 3", INDEX, () -> x.crane(3, 60, 60, 60));
        due("no crane -1", INDEX, () -> x.crane(-1, -9, 60, 60));
        due("place below low", RANGE, () -> x.crane(1, 59, 60, 80));
        due("place above high", RANGE, () -> x.crane(1, 81, 60, 80));
        due("low below 0", RANGE, () -> x.crane(1, 60, -1, 80));
        due("high above 200", RANGE, () -> x.crane(1, 60, 0, 201));
        due("range ahead of meaning", RANGE, () -> x.crane(1, 200, 0, 201));
        due("near its upper neighbour", MEANING, () -> x.crane(1, 91, 0, 200));
        due("at its upper neighbour's gap", OK, () -> x.crane(1, 90, 0, 200));
        due("near its lower neighbour", MEANING, () -> x.crane(1, 9, 0, 200));
        due("at its lower neighbour's gap", OK, () -> x.crane(1, 10, 0, 200));
        due("passed up", MEANING, () -> x.crane(1, 150, 0, 200));
        due("passed down", MEANING, () -> x.crane(2, 0, 0, 200));
        due("passed both", MEANING, () -> x.crane(0, 200, 0, 200));
        duePlaces("refused changes nothing", x, 0, 10, 100);
        x.job(50, 150, 0);
        x.job(49, 150, 0);
        x.job(50, 151, 0);
        due("its reach has both", OK, () -> x.give(0, 2));
        due("from below its reach", MEANING, () -> x.give(1, 2));
        due("to above its reach", MEANING, () -> x.give(2, 2));
    }

    private static void craneTurn() {
        CraneTurns x = made(2, 10, 5, 2);
        x.run(0);
        due("no second has gone", OK, () -> x.crane(1, 20, 0, 200));
        x.run(1);
        due("a second has gone", TURN, () -> x.crane(1, 20, 0, 200));
        due("turn ahead of range", TURN, () -> x.crane(1, 20, 0, 201));
        due("index ahead of turn", INDEX, () -> x.crane(2, 20, 0, 200));
        CraneTurns y = made(2, 10, 5, 2);
        y.job(0, 0, 0);
        y.plan(100);
        y.broken(0, true);
        due("a plan gives nothing", OK, () -> y.crane(1, 20, 10, 200));
        due("refused", MEANING, () -> y.give(0, 1));
        due("a giving refused is none", OK, () -> y.crane(1, 20, 0, 200));
        y.give(0, 1);
        y.take(0);
        due("a job was given ever", TURN, () -> y.crane(1, 20, 0, 200));
        duePlaces("still", y, 0, 20);
    }

    // Promise 4

    private static void job() {
        CraneTurns x = made(1, 1, 1, 1);
        int[][] bad = {{-1, 0, 0}, {201, 0, 0}, {0, -1, 0}, {0, 201, 0}, {0, 0, -1}, {0, 0, 5001}};
        for (int[] b : bad) {
            dueInt("bad job", RANGE, () -> x.job(b[0], b[1], b[2]));
        }
        dueInt("no job of refused ones", INDEX, () -> x.state(0, 0));
        dueInt("job 0", 0, () -> x.job(0, 200, 5000));
        for (int j = 1; j < 8; j++) {
            dueInt("job", j, () -> x.job(200, 0, 0));
        }
        dueInt("job 8", MEANING, () -> x.job(0, 0, 0));
        dueInt("range ahead of meaning", RANGE, () -> x.job(0, 0, 5001));
        dueInt("free", 0, () -> x.state(7, 0));
        dueInt("no job 8", INDEX, () -> x.state(8, 0));
        CraneTurns narrow = made(1, 1, 1, 1);
        narrow.crane(0, 5, 5, 5);
        dueInt("a job that no crane reaches", 0, () -> narrow.job(6, 6, 0));
    }

    // Promise 5

    private static void give() {
        CraneTurns x = made(2, 10, 5, 2);
        x.crane(1, 60, 50, 100);
        x.job(0, 0, 0);
        x.job(50, 100, 0);
        due("no job 2", INDEX, () -> x.give(2, 0));
        due("no job -1", INDEX, () -> x.give(-1, 0));
        due("no crane 2", INDEX, () -> x.give(0, 2));
        due("no crane -1", INDEX, () -> x.give(0, -1));
        due("out of reach", MEANING, () -> x.give(0, 1));
        dueInt("refused: free", 0, () -> x.state(0, 0));
        dueInt("refused: nobody's", -1, () -> x.state(0, 1));
        due("give", OK, () -> x.give(0, 0));
        dueInt("given", 1, () -> x.state(0, 0));
        dueInt("its crane", 0, () -> x.state(0, 1));
        due("not free", TURN, () -> x.give(0, 0));
        due("turn ahead of meaning", TURN, () -> x.give(0, 1));
        due("index ahead of turn", INDEX, () -> x.give(0, 2));
        due("at the edges of its reach", OK, () -> x.give(1, 1));
        x.run(1);
        due("at hand is not free", TURN, () -> x.give(0, 0));
        x.run(100);
        dueInt("done", 3, () -> x.state(0, 0));
        due("done is not free", TURN, () -> x.give(0, 0));
        x.job(0, 0, 0);
        x.broken(0, true);
        due("to a broken one", OK, () -> x.give(2, 0));
    }

    private static void giveKeepsOrder() {
        CraneTurns x = made(1, 1, 20, 1);
        for (int j = 0; j < 4; j++) {
            x.job(0, 0, 0);
        }
        x.give(2, 0);
        x.give(0, 0);
        x.give(3, 0);
        x.give(1, 0);
        x.take(0);
        dueInt("three are given", 3, () -> x.at(0, 2));
        int[] order = {2, 3, 1};
        for (int i = 0; i < 3; i++) {
            int left = 2 - i;
            x.run(1);
            dueInt("at hand", order[i], () -> x.at(0, 1));
            dueInt("more given", left, () -> x.at(0, 2));
            x.run(1);
        }
        dueInt("none at hand", -1, () -> x.at(0, 1));
        dueInt("the first", 2, () -> x.state(2, 2));
        dueInt("the second", 4, () -> x.state(3, 2));
        dueInt("the third", 6, () -> x.state(1, 2));
        dueInt("taken", 0, () -> x.state(0, 0));
    }

    // Promise 6

    private static void take() {
        CraneTurns x = made(1, 1, 1, 1);
        x.job(1, 0, 0);
        x.job(0, 0, 0);
        due("no job 2", INDEX, () -> x.take(2));
        due("no job -1", INDEX, () -> x.take(-1));
        due("free", TURN, () -> x.take(0));
        x.give(0, 0);
        x.give(1, 0);
        due("given", OK, () -> x.take(1));
        dueInt("free again", 0, () -> x.state(1, 0));
        dueInt("nobody's again", -1, () -> x.state(1, 1));
        dueInt("one less", 1, () -> x.at(0, 2));
        due("again", TURN, () -> x.take(1));
        x.run(1);
        due("at hand", TURN, () -> x.take(0));
        dueInt("still at hand", 2, () -> x.state(0, 0));
        x.run(10);
        due("done", TURN, () -> x.take(0));
        dueInt("still done", 3, () -> x.state(0, 0));
        dueInt("the taken one is not done", -1, () -> x.state(1, 2));
        due("given again", OK, () -> x.give(1, 0));
    }

    // Promise 7

    private static void broken() {
        CraneTurns x = made(2, 10, 5, 2);
        due("no crane 2", INDEX, () -> x.broken(2, true));
        due("no crane -1", INDEX, () -> x.broken(-1, false));
        due("it works", TURN, () -> x.broken(0, false));
        due("breaks", OK, () -> x.broken(0, true));
        due("is broken", TURN, () -> x.broken(0, true));
        x.run(3);
        dueInt("seconds broken", 3, () -> x.at(0, 6));
        dueInt("not idle", 0, () -> x.at(0, 5));
        dueInt("the other is not", 0, () -> x.at(1, 6));
        due("works again", OK, () -> x.broken(0, false));
        due("works", TURN, () -> x.broken(0, false));
        x.run(2);
        dueInt("no more seconds broken", 3, () -> x.at(0, 6));
        dueInt("idle", 2, () -> x.at(0, 5));
    }

    private static void brokenHoldsTheLoad() {
        CraneTurns x = made(1, 1, 5, 3);
        x.job(0, 10, 0);
        x.give(0, 0);
        x.broken(0, true);
        x.run(2);
        dueInt("takes nothing", -1, () -> x.at(0, 1));
        dueInt("still given", 1, () -> x.state(0, 0));
        x.broken(0, false);
        x.run(2);
        x.broken(0, true);
        x.run(5);
        dueInt("still lifting", 2, () -> x.at(0, 7));
        x.broken(0, false);
        x.run(2);
        duePlaces("on the way with it", x, 5);
        x.broken(0, true);
        x.run(5);
        duePlaces("stays", x, 5);
        dueInt("holds it", 0, () -> x.at(0, 1));
        dueInt("at hand", 2, () -> x.state(0, 0));
        x.broken(0, false);
        x.run(4);
        dueInt("done in the second", 20, () -> x.state(0, 2));
        dueInt("work", 8, () -> x.at(0, 3));
        dueInt("broken", 12, () -> x.at(0, 6));
    }

    // Promise 8

    private static void run() {
        CraneTurns x = made(1, 1, 1, 1);
        dueInt("run(0)", 0, () -> x.run(0));
        dueInt("run(-1)", RANGE, () -> x.run(-1));
        dueInt("run(1001)", RANGE, () -> x.run(1001));
        dueInt("run(most)", RANGE, () -> x.run(Integer.MAX_VALUE));
        dueInt("refused changes nothing", 7, () -> x.run(7));
        for (int i = 1; i < 100; i++) {
            dueInt("run(1000)", 7 + 1000 * i, () -> x.run(1000));
        }
        dueInt("beyond 100,000", RANGE, () -> x.run(994));
        dueInt("100,000", 100_000, () -> x.run(993));
        dueInt("no more", RANGE, () -> x.run(1));
        dueInt("run(0) at the end", 100_000, () -> x.run(0));
        dueInt("idle all the time", 100_000, () -> x.at(0, 5));
    }

    private static void oneJobSecondBySecond() {
        CraneTurns x = made(1, 1, 5, 2);
        x.job(12, 3, 0);
        x.give(0, 0);
        int[] places = {5, 10, 12, 12, 12, 7, 3, 3, 3, 3};
        int[] does = {1, 1, 2, 2, 3, 3, 4, 4, 0, 0};
        for (int s = 0; s < places.length; s++) {
            int i = s;
            dueInt("clock", s + 1, () -> x.run(1));
            dueInt("place at " + (s + 1), places[s], () -> x.at(0, 0));
            dueInt("does at " + (s + 1), does[s], () -> x.at(0, 7));
            dueInt("job at " + (s + 1), i < 8 ? 0 : -1, () -> x.at(0, 1));
            dueInt("state at " + (s + 1), i < 8 ? 2 : 3, () -> x.state(0, 0));
            dueInt("done at " + (s + 1), i < 8 ? -1 : 9, () -> x.state(0, 2));
        }
        dueInt("work", 9, () -> x.at(0, 3));
        dueInt("blocked", 0, () -> x.at(0, 4));
        dueInt("idle", 1, () -> x.at(0, 5));
    }

    private static void jobThatIsThere() {
        CraneTurns x = made(1, 1, 5, 2);
        x.job(0, 0, 0);
        x.job(0, 4, 0);
        x.give(0, 0);
        x.give(1, 0);
        int[] does = {2, 4, 4, 0, 2, 3, 4, 4, 0};
        for (int s = 0; s < does.length; s++) {
            x.run(1);
            dueInt("does at " + (s + 1), does[s], () -> x.at(0, 7));
        }
        dueInt("first done", 4, () -> x.state(0, 2));
        dueInt("second done", 9, () -> x.state(1, 2));
    }

    private static void readySecond() {
        CraneTurns x = made(1, 1, 5, 1);
        x.job(5, 5, 3);
        x.job(0, 0, 0);
        x.give(0, 0);
        x.give(1, 0);
        x.run(3);
        dueInt("not ready, and none overtakes it", -1, () -> x.at(0, 1));
        dueInt("idle till then", 3, () -> x.at(0, 5));
        dueInt("both wait", 2, () -> x.at(0, 2));
        x.run(1);
        dueInt("ready", 0, () -> x.at(0, 1));
        duePlaces("went in the same second", x, 5);
        x.run(2);
        dueInt("done", 6, () -> x.state(0, 2));
    }

    private static void blockedByABrokenNeighbour() {
        CraneTurns x = made(2, 10, 5, 3);
        x.crane(1, 22, 0, 200);
        x.job(50, 50, 0);
        x.give(0, 0);
        x.broken(1, true);
        x.run(3);
        duePlaces("up to the gap", x, 12, 22);
        dueInt("less than the speed is work", 3, () -> x.at(0, 3));
        x.run(4);
        duePlaces("not nearer", x, 12, 22);
        dueInt("blocked", 4, () -> x.at(0, 4));
        dueInt("broken", 7, () -> x.at(1, 6));
        x.broken(1, false);
        x.run(1);
        duePlaces("the lower one goes first", x, 12, 27);
        dueInt("blocked once more", 5, () -> x.at(0, 4));
        x.run(1);
        duePlaces("follows", x, 17, 32);
        dueInt("not blocked", 5, () -> x.at(0, 4));
        dueInt("giving way is idle", 2, () -> x.at(1, 5));
    }

    private static void movesUpToTheGap() {
        CraneTurns x = made(2, 10, 20, 1);
        x.crane(1, 50, 0, 200);
        x.crane(0, 30, 0, 200);
        x.job(30, 30, 0);
        x.job(35, 35, 0);
        x.broken(0, true);
        x.give(1, 1);
        x.run(1);
        duePlaces("down to the gap", x, 30, 40);
        x.run(2);
        dueInt("blocked", 2, () -> x.at(1, 4));
        dueInt("work", 1, () -> x.at(1, 3));
        dueInt("on the way to it", 1, () -> x.at(1, 7));
    }

    private static void givesWayUp() {
        CraneTurns x = made(2, 10, 5, 1);
        x.job(12, 12, 0);
        x.give(0, 0);
        int[][] places = {{0, 15}, {5, 20}, {10, 22}, {12, 22}, {12, 22}};
        for (int[] p : places) {
            x.run(1);
            duePlaces("gives way up", x, p);
        }
        dueInt("blocked once", 1, () -> x.at(0, 4));
        CraneTurns y = made(2, 10, 5, 1);
        y.crane(1, 22, 0, 200);
        y.job(12, 12, 0);
        y.give(0, 0);
        y.run(2);
        duePlaces("a goal at the gap needs no way", y, 10, 22);
    }

    private static void givesWayDown() {
        CraneTurns x = made(2, 10, 5, 1);
        x.crane(1, 60, 0, 200);
        x.crane(0, 40, 0, 200);
        x.job(30, 30, 0);
        x.give(0, 1);
        int[][] places = {{40, 55}, {35, 50}, {30, 45}, {25, 40}, {20, 35}, {20, 30}};
        for (int[] p : places) {
            x.run(1);
            duePlaces("gives way down", x, p);
        }
        dueInt("idle", 6, () -> x.at(0, 5));
        dueInt("near", 10, x::near);
        CraneTurns y = made(2, 10, 5, 1);
        y.crane(1, 60, 0, 200);
        y.crane(0, 20, 0, 200);
        y.job(30, 30, 0);
        y.give(0, 1);
        y.run(3);
        duePlaces("a goal at the gap needs no way", y, 20, 45);
        CraneTurns z = made(2, 10, 7, 1);
        z.crane(1, 60, 0, 200);
        z.crane(0, 25, 0, 200);
        z.job(30, 30, 0);
        z.give(0, 1);
        z.run(2);
        duePlaces("not farther than it must", z, 20, 46);
    }

    private static void givesWayToTheLowerNeighbourFirst() {
        CraneTurns x = made(3, 10, 5, 1);
        x.crane(2, 150, 0, 200);
        x.crane(1, 50, 0, 200);
        x.job(60, 60, 0);
        x.job(40, 40, 0);
        x.give(0, 0);
        x.give(1, 2);
        int[][] places = {{5, 55, 145}, {10, 60, 140}, {15, 65, 135}, {20, 70, 130}, {25, 65, 125}};
        for (int i = 0; i < 4; i++) {
            x.run(1);
            duePlaces("lower first", x, places[i]);
        }
        x.run(1);
        duePlaces("then the upper", x, places[4]);
        x.run(1);
        duePlaces("and the lower again", x, 30, 70, 120);
        CraneTurns y = made(3, 10, 5, 1);
        y.crane(2, 70, 0, 200);
        y.crane(1, 60, 0, 200);
        y.crane(0, 40, 0, 200);
        y.job(80, 80, 0);
        y.job(30, 30, 0);
        y.give(0, 0);
        y.give(1, 2);
        y.run(2);
        duePlaces("up against the upper one, not down", y, 50, 60, 70);
        dueInt("blocked", 2, () -> y.at(2, 4));
    }

    private static void givesWayOnlyToGoals() {
        CraneTurns x = made(3, 10, 5, 1);
        x.job(100, 100, 0);
        x.give(0, 0);
        x.run(3);
        duePlaces("one that gives way has no goal of its own", x, 0, 10, 20);
        dueInt("blocked", 3, () -> x.at(0, 4));
        CraneTurns y = made(2, 10, 5, 3);
        y.crane(1, 40, 0, 200);
        y.job(30, 0, 0);
        y.give(0, 1);
        y.run(2);
        duePlaces("goes there", y, 0, 30);
        y.run(3);
        dueInt("lifted", 3, () -> y.at(1, 7));
        y.run(4);
        duePlaces("no room below 0", y, 0, 10);
        dueInt("blocked there", 0, () -> y.at(1, 4));
        y.run(1);
        dueInt("blocked", 1, () -> y.at(1, 4));
        CraneTurns z = made(2, 10, 5, 9);
        z.crane(1, 20, 0, 200);
        z.job(10, 60, 0);
        z.give(0, 0);
        z.run(8);
        dueInt("lifting has no goal", 2, () -> z.at(0, 7));
        duePlaces("so nobody gives way", z, 10, 20);
        z.run(4);
        dueInt("with it", 3, () -> z.at(0, 7));
        duePlaces("the goal is known in the lifting's last second", z, 15, 30);
    }

    private static void givesWayWithinItsReach() {
        CraneTurns x = made(2, 10, 5, 1);
        x.crane(1, 20, 0, 22);
        x.job(50, 50, 0);
        x.give(0, 0);
        x.run(6);
        duePlaces("up to its high place", x, 12, 22);
        dueInt("blocked", 3, () -> x.at(0, 4));
        CraneTurns y = made(2, 10, 5, 1);
        y.crane(1, 60, 0, 200);
        y.crane(0, 40, 38, 200);
        y.job(30, 30, 0);
        y.give(0, 1);
        y.run(6);
        duePlaces("down to its low place", y, 38, 48);
    }

    // Promise 9

    private static void at() {
        CraneTurns x = made(2, 10, 5, 2);
        for (int what = 0; what < 8; what++) {
            int w = what;
            int want = what == 0 ? 10 : what == 1 ? -1 : 0;
            dueInt("at(1, " + what + ") of a new track", want, () -> x.at(1, w));
        }
        dueInt("no what 8", INDEX, () -> x.at(0, 8));
        dueInt("no what -1", INDEX, () -> x.at(0, -1));
        dueInt("no crane 2", INDEX, () -> x.at(2, 0));
        dueInt("no crane -1", INDEX, () -> x.at(-1, 0));
        x.job(10, 10, 0);
        x.job(10, 10, 0);
        x.give(0, 1);
        x.give(1, 1);
        dueInt("two given", 2, () -> x.at(1, 2));
        dueInt("none at hand yet", -1, () -> x.at(1, 1));
        dueInt("nothing yet", 0, () -> x.at(1, 7));
        x.run(1);
        dueInt("one more", 1, () -> x.at(1, 2));
        dueInt("at hand", 0, () -> x.at(1, 1));
    }

    private static void sharesSum() {
        CraneTurns x = made(3, 30, 20, 1);
        x.job(0, 200, 0);
        x.job(200, 0, 0);
        x.give(0, 0);
        x.give(1, 2);
        x.broken(1, true);
        x.run(17);
        x.broken(1, false);
        int clock = x.run(23);
        for (int c = 0; c < 3; c++) {
            int crane = c;
            dueInt("shares", clock, () -> x.at(crane, 3) + x.at(crane, 4) + x.at(crane, 5) + x.at(crane, 6));
        }
        dueInt("broken", 17, () -> x.at(1, 6));
    }

    // Promise 10

    private static void state() {
        CraneTurns x = made(2, 10, 5, 2);
        x.job(10, 10, 0);
        dueInt("free", 0, () -> x.state(0, 0));
        dueInt("no crane", -1, () -> x.state(0, 1));
        dueInt("not done", -1, () -> x.state(0, 2));
        x.give(0, 1);
        dueInt("given", 1, () -> x.state(0, 0));
        dueInt("to crane 1", 1, () -> x.state(0, 1));
        x.run(1);
        dueInt("at hand", 2, () -> x.state(0, 0));
        dueInt("of crane 1", 1, () -> x.state(0, 1));
        x.run(2);
        dueInt("not done yet", -1, () -> x.state(0, 2));
        x.run(2);
        dueInt("done", 3, () -> x.state(0, 0));
        dueInt("by crane 1", 1, () -> x.state(0, 1));
        dueInt("in second 4", 4, () -> x.state(0, 2));
        dueInt("no what 3", INDEX, () -> x.state(0, 3));
        dueInt("no what -1", INDEX, () -> x.state(0, -1));
        dueInt("no job 1", INDEX, () -> x.state(1, 0));
        dueInt("no job -1", INDEX, () -> x.state(-1, 0));
    }

    // Promise 11

    private static void near() {
        CraneTurns x = made(3, 10, 5, 1);
        x.crane(2, 150, 0, 200);
        x.crane(1, 100, 0, 200);
        x.run(0);
        dueInt("no second has gone", 200, x::near);
        x.run(1);
        dueInt("the upper two", 50, x::near);
        x.job(75, 0, 0);
        x.give(0, 0);
        x.run(15);
        dueInt("lower two", 25, x::near);
        x.run(30);
        duePlaces("far again", x, 0, 100, 150);
        dueInt("the least so far", 25, x::near);
        CraneTurns one = made(1, 1, 1, 1);
        one.run(5);
        dueInt("one crane has no neighbour", 200, one::near);
        CraneTurns y = made(2, 10, 20, 1);
        y.crane(1, 45, 0, 200);
        y.job(60, 60, 0);
        y.give(0, 0);
        y.run(2);
        duePlaces("gave way", y, 40, 70);
        dueInt("looked at behind all cranes", 30, y::near);
    }

    // Promise 12

    private static void plan() {
        CraneTurns x = made(2, 10, 5, 2);
        dueInt("no jobs", 0, () -> x.plan(1));
        dueInt("plan(0)", RANGE, () -> x.plan(0));
        dueInt("plan(-1)", RANGE, () -> x.plan(-1));
        dueInt("plan(301)", RANGE, () -> x.plan(301));
        x.job(12, 22, 0);
        dueInt("one job", 7, () -> x.plan(300));
        dueInt("by crane 1", 1, () -> x.planned(0));
        dueInt("just so many", 7, () -> x.plan(7));
        dueInt("one too few", -1, () -> x.plan(6));
        dueInt("none was found", -1, () -> x.planned(0));
        for (int j = 1; j < 5; j++) {
            x.job(0, 0, 0);
        }
        dueInt("range ahead of meaning", RANGE, () -> x.plan(301));
        dueInt("five free jobs", MEANING, () -> x.plan(300));
        x.give(4, 0);
        dueInt("four free jobs", 16, () -> x.plan(300));
        CraneTurns narrow = made(1, 1, 1, 1);
        narrow.crane(0, 5, 5, 9);
        narrow.job(4, 5, 0);
        dueInt("no way to give it", -1, () -> narrow.plan(300));
        CraneTurns late = made(1, 1, 1, 1);
        late.job(0, 0, 298);
        dueInt("300 seconds", 300, () -> late.plan(300));
        late.run(8);
        dueInt("so many more", 292, () -> late.plan(300));
        CraneTurns later = made(1, 1, 1, 1);
        later.job(0, 0, 299);
        dueInt("301 seconds", -1, () -> later.plan(300));
    }

    private static void planLeavesAllAsItIs() {
        CraneTurns x = made(2, 10, 5, 2);
        x.crane(1, 60, 0, 200);
        x.job(30, 70, 0);
        x.job(100, 0, 0);
        x.give(0, 0);
        x.run(3);
        dueInt("plan", 46, () -> x.plan(300));
        duePlaces("as it was", x, 15, 60);
        dueInt("clock", 3, () -> x.run(0));
        dueInt("near", 45, x::near);
        dueInt("free", 0, () -> x.state(1, 0));
        dueInt("nobody's", -1, () -> x.state(1, 1));
        dueInt("at hand", 2, () -> x.state(0, 0));
        dueInt("none given", 0, () -> x.at(1, 2));
        dueInt("work", 3, () -> x.at(0, 3));
        dueInt("idle", 3, () -> x.at(1, 5));
        dueInt("the same again", 46, () -> x.plan(300));
        x.give(1, x.planned(0) % 10);
        x.run(46);
        dueInt("it comes so", 49, () -> Math.max(x.state(0, 2), x.state(1, 2)));
    }

    private static void planCountsJobsThatAreGiven() {
        CraneTurns x = made(1, 1, 5, 2);
        x.job(5, 5, 0);
        x.give(0, 0);
        dueInt("all are given", 5, () -> x.plan(300));
        dueInt("no giving", -1, () -> x.planned(0));
        x.job(5, 5, 0);
        dueInt("behind the given one", 9, () -> x.plan(300));
        dueInt("the free one alone", 10, () -> x.planned(0));
        dueInt("no more", -1, () -> x.planned(1));
        x.run(5);
        dueInt("the other is done", 4, () -> x.plan(300));
        x.give(1, 0);
        x.run(4);
        dueInt("all are done", 0, () -> x.plan(300));
        CraneTurns y = made(1, 1, 5, 5);
        y.job(0, 0, 0);
        y.give(0, 0);
        y.run(2);
        dueInt("amid the lifting", 8, () -> y.plan(300));
    }

    private static void planWithBrokenCrane() {
        CraneTurns x = made(2, 10, 5, 2);
        x.crane(1, 60, 0, 200);
        x.job(55, 55, 0);
        dueInt("the near one", 5, () -> x.plan(300));
        dueInt("crane 1", 1, () -> x.planned(0));
        x.broken(1, true);
        dueInt("it is in the way", -1, () -> x.plan(300));
        CraneTurns y = made(2, 10, 5, 2);
        y.crane(1, 60, 0, 200);
        y.job(40, 40, 0);
        dueInt("the near one", 8, () -> y.plan(300));
        dueInt("crane 1", 1, () -> y.planned(0));
        y.broken(1, true);
        dueInt("the other", 12, () -> y.plan(300));
        dueInt("crane 0", 0, () -> y.planned(0));
    }

    private static void planFirstOfTheLeast() {
        CraneTurns x = made(2, 10, 5, 2);
        x.crane(1, 30, 0, 200);
        x.job(15, 15, 0);
        dueInt("as soon by each", 7, () -> x.plan(300));
        dueInt("the lower crane", 0, () -> x.planned(0));
        CraneTurns y = made(1, 1, 1, 1);
        y.job(0, 0, 0);
        y.job(0, 0, 0);
        y.job(0, 0, 0);
        dueInt("in each order", 6, () -> y.plan(300));
        dueInt("job 0 first", 0, () -> y.planned(0));
        dueInt("job 1 next", 10, () -> y.planned(1));
        dueInt("job 2 last", 20, () -> y.planned(2));
        CraneTurns z = made(2, 10, 5, 1);
        z.crane(1, 100, 0, 200);
        z.job(100, 100, 0);
        z.job(0, 0, 0);
        z.job(100, 100, 0);
        z.job(0, 0, 0);
        dueInt("two each", 4, () -> z.plan(300));
        dueInt("lower job ahead, whichever its crane", 1, () -> z.planned(0));
        dueInt("next", 10, () -> z.planned(1));
        dueInt("next", 21, () -> z.planned(2));
        dueInt("last", 30, () -> z.planned(3));
        CraneTurns v = made(2, 10, 5, 1);
        v.crane(1, 30, 0, 200);
        v.job(18, 18, 0);
        dueInt("a second less is less", 5, () -> v.plan(300));
        dueInt("the upper crane", 1, () -> v.planned(0));
        CraneTurns w = made(3, 10, 5, 1);
        w.crane(2, 100, 0, 200);
        w.crane(1, 50, 0, 200);
        w.job(100, 100, 0);
        w.job(50, 50, 0);
        w.job(0, 0, 0);
        dueInt("one each", 2, () -> w.plan(300));
        dueInt("job 0 to crane 2", 2, () -> w.planned(0));
        dueInt("job 1 to crane 1", 11, () -> w.planned(1));
        dueInt("job 2 to crane 0", 20, () -> w.planned(2));
    }

    private static void planOrderOfOneCrane() {
        CraneTurns x = made(1, 1, 5, 1);
        x.job(50, 50, 0);
        x.job(10, 10, 0);
        x.job(30, 30, 0);
        dueInt("on its way", 16, () -> x.plan(300));
        dueInt("job 1", 10, () -> x.planned(0));
        dueInt("job 2", 20, () -> x.planned(1));
        dueInt("job 0", 0, () -> x.planned(2));
        dueInt("no more", -1, () -> x.planned(3));
    }

    // Promise 13

    private static void planned() {
        CraneTurns x = made(2, 10, 5, 1);
        x.crane(1, 100, 0, 200);
        x.job(100, 100, 0);
        x.job(0, 0, 0);
        x.plan(300);
        dueInt("job 0 to crane 1", 1, () -> x.planned(0));
        dueInt("job 1 to crane 0", 10, () -> x.planned(1));
        dueInt("no third", -1, () -> x.planned(2));
        dueInt("far beyond", -1, () -> x.planned(4));
        dueInt("farthest", -1, () -> x.planned(Integer.MAX_VALUE));
        dueInt("below 0", INDEX, () -> x.planned(-1));
        dueInt("lowest", INDEX, () -> x.planned(Integer.MIN_VALUE));
        dueInt("refused", RANGE, () -> x.plan(0));
        dueInt("refused changes nothing", 10, () -> x.planned(1));
        x.give(0, 0);
        x.run(1);
        dueInt("kept while time goes", 1, () -> x.planned(0));
        for (int j = 2; j < 6; j++) {
            x.job(0, 0, 0);
        }
        dueInt("refused", MEANING, () -> x.plan(300));
        dueInt("refused changes nothing", 1, () -> x.planned(0));
        x.give(2, 0);
        dueInt("none was found", -1, () -> x.plan(1));
        dueInt("the latest plan", -1, () -> x.planned(0));
    }
}
