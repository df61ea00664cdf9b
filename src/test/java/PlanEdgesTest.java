/** The boundary cases of promises 12 and 13: plan, planned. */
public final class PlanEdgesTest extends Edges {
    public static void main(String[] args) {
        turnAndRange();
        meaning();
        secondsAtMost();
        noFreeJob();
        reach();
        broken();
        onACopy();
        firstOfTheLeast();
        orders();
        plannedIndex();
        plannedGivings();
        plannedOfTheLatest();
        end();
    }

    /** One crane with speed 5 and lift 1, and so many jobs that take 2 seconds each. */
    private static CraneTurns withJobs(int count) {
        CraneTurns x = made(1, 1, 5, 1);
        for (int j = 0; j < count; j++) {
            x.job(0, 0, 0);
        }
        return x;
    }

    private static CraneTurns readyAt(int second) {
        CraneTurns x = made(1, 1, 5, 1);
        x.job(0, 0, second);
        return x;
    }

    private static void givings(String when, CraneTurns x, int... due) {
        for (int k = 0; k < due.length; k++) {
            due(when + ": planned(" + k + ")", due[k], x.planned(k));
        }
        due(when + ": one more planned", -1, x.planned(due.length));
    }

    // Promise 12

    private static void turnAndRange() {
        edge("Promise 12: turn: there is no track", () -> {
            refuses(TURN, BARE, x -> x.plan(1));
            refuses(TURN, BARE, x -> x.plan(300));
        });
        edge("Promise 12: turn is looked at ahead of range", () -> {
            refuses(TURN, BARE, x -> x.plan(0));
            refuses(TURN, BARE, x -> x.plan(301));
        });
        edge("Promise 12: range: 1 .. 300 seconds", () ->
                limits(RANGE, Edges::busy, 1, 300, (x, v) -> x.plan(v)));
        edge("Promise 12: range: 1 .. 300 seconds, with no job too", () ->
                limits(RANGE, () -> withJobs(0), 1, 300, (x, v) -> x.plan(v)));
    }

    private static void meaning() {
        edge("Promise 12: meaning: more than 4 free jobs", () -> {
            due("four", 8, withJobs(4).plan(300));
            refuses(MEANING, () -> withJobs(5), x -> x.plan(300));
            refuses(MEANING, () -> withJobs(8), x -> x.plan(300));
            refuses(MEANING, () -> withJobs(5), x -> x.plan(1));
        });
        edge("Promise 12: meaning: given, at hand and done jobs are not free", () -> {
            CraneTurns x = withJobs(8);
            for (int j = 0; j < 4; j++) {
                x.give(j, 0);
            }
            due("four given", 16, x.plan(300));
            x.run(1);
            due("one of them at hand", 15, x.plan(300));
            x.run(7);
            due("all four done", 8, x.plan(300));
            givings("the free ones", x, 40, 50, 60, 70);
        });
        edge("Promise 12: meaning: one that is taken is free", () ->
                refuses(MEANING, () -> {
                    CraneTurns x = withJobs(5);
                    x.give(0, 0);
                    x.plan(300);
                    x.take(0);
                    return x;
                }, x -> x.plan(300)));
        edge("Promise 12: meaning: free jobs that no crane reaches count too", () ->
                refuses(MEANING, () -> {
                    CraneTurns x = made(1, 1, 1, 1);
                    x.crane(0, 5, 5, 5);
                    for (int j = 0; j < 5; j++) {
                        x.job(6, 6, 0);
                    }
                    return x;
                }, x -> x.plan(300)));
        edge("Promise 12: range is looked at ahead of meaning", () -> {
            refuses(RANGE, () -> withJobs(5), x -> x.plan(0));
            refuses(RANGE, () -> withJobs(5), x -> x.plan(301));
        });
    }

    private static void secondsAtMost() {
        edge("Promise 12: with so many seconds at most: just so many, and one less", () -> {
            due("2 of 2", 2, withJobs(1).plan(2));
            due("2 of 1", -1, withJobs(1).plan(1));
            due("8 of 8", 8, withJobs(4).plan(8));
            due("8 of 7", -1, withJobs(4).plan(7));
        });
        edge("Promise 12: with so many seconds at most: 300 of 300, and 301", () -> {
            due("300", 300, readyAt(298).plan(300));
            due("300 of 299", -1, readyAt(298).plan(299));
            due("301", -1, readyAt(299).plan(300));
        });
        edge("Promise 12: how many more seconds, from the clock on", () -> {
            CraneTurns x = readyAt(5000);
            for (int i = 0; i < 4; i++) {
                x.run(1000);
            }
            due("clock", 4701, x.run(701));
            due("301 more", -1, x.plan(300));
            x.run(1);
            due("300 more", 300, x.plan(300));
            x.run(298);
            due("2 more, at its ready second", 2, x.plan(2));
        });
        edge("Promise 12: 1 second: the last one of a job at hand", () -> {
            CraneTurns x = withJobs(1);
            x.give(0, 0);
            due("none of it has gone", -1, x.plan(1));
            x.run(1);
            due("one more", 1, x.plan(1));
        });
        edge("Promise 12: until all jobs are done, the given ones too", () -> {
            CraneTurns x = made(2, 10, 5, 1);
            x.crane(1, 100, 0, 200);
            x.job(50, 50, 0);
            x.give(0, 0);
            x.job(100, 100, 0);
            due("the given one ends it", 12, x.plan(12));
            givings("the free one", x, 11);
            due("one less", -1, x.plan(11));
        });
    }

    private static void noFreeJob() {
        edge("Promise 12: no job at all: done in 0 seconds", () -> {
            CraneTurns x = withJobs(0);
            due("plan", 0, x.plan(1));
            givings("none", x);
        });
        edge("Promise 12: no free job, all are done: 0 seconds", () -> {
            CraneTurns x = withJobs(1);
            x.give(0, 0);
            x.run(2);
            due("plan", 0, x.plan(1));
            givings("none", x);
        });
        edge("Promise 12: no free job, one is given: its seconds, or -1", () -> {
            CraneTurns x = withJobs(1);
            x.give(0, 0);
            due("plan", 2, x.plan(2));
            givings("none", x);
            due("too few seconds", -1, x.plan(1));
            givings("none", x);
        });
    }

    private static CraneTurns reaching(int from, int to) {
        CraneTurns x = made(2, 10, 5, 1);
        x.crane(1, 55, 50, 60);
        x.crane(0, 0, 0, 40);
        x.job(from, to, 0);
        return x;
    }

    private static void reach() {
        edge("Promise 12: each to a crane whose reach has it: its low and its high place", () -> {
            CraneTurns low = reaching(50, 50);
            due("low", 3, low.plan(300));
            givings("low", low, 1);
            CraneTurns high = reaching(60, 60);
            due("high", 3, high.plan(300));
            givings("high", high, 1);
            CraneTurns lower = reaching(40, 40);
            due("lower crane's high", 10, lower.plan(300));
            givings("lower crane's high", lower, 0);
        });
        edge("Promise 12: no crane's reach has it: no way", () -> {
            for (int[] job : new int[][] {{49, 55}, {55, 61}, {41, 30}, {40, 50}, {200, 200}}) {
                CraneTurns x = reaching(job[0], job[1]);
                due("from " + job[0] + " to " + job[1], -1, x.plan(300));
                givings("none", x);
            }
        });
        edge("Promise 12: no crane's reach has one of them: no way for all", () -> {
            CraneTurns x = reaching(50, 50);
            x.job(61, 61, 0);
            due("plan", -1, x.plan(300));
            givings("none", x);
        });
    }

    private static void broken() {
        edge("Promise 12: with what is broken now: the other crane has to", () -> {
            CraneTurns x = made(2, 10, 5, 1);
            x.crane(1, 60, 0, 200);
            x.job(40, 40, 0);
            due("it works", 6, x.plan(300));
            givings("the near one", x, 1);
            x.broken(1, true);
            due("it is broken", 10, x.plan(300));
            givings("the far one", x, 0);
            x.broken(1, false);
            due("it works again", 6, x.plan(300));
            givings("the near one", x, 1);
        });
        edge("Promise 12: with what is broken now: all are", () -> {
            CraneTurns x = withJobs(1);
            x.broken(0, true);
            due("no way is done", -1, x.plan(300));
            givings("none", x);
        });
        edge("Promise 12: with what is broken now: it holds a job", () -> {
            CraneTurns x = withJobs(2);
            x.give(0, 0);
            x.run(1);
            x.broken(0, true);
            due("no way is done", -1, x.plan(300));
        });
        edge("Promise 12: with what is broken now: one without a job hinders nothing", () -> {
            CraneTurns x = made(2, 10, 5, 1);
            x.job(0, 0, 0);
            x.broken(1, true);
            due("plan", 2, x.plan(300));
            givings("the other", x, 0);
        });
    }

    private static void onACopy() {
        edge("Promise 12: on a copy: a plan that is found changes nothing but planned", () -> {
            due("found", 1, busy().plan(300) > 0 ? 1 : 0);
            leavesAll(Edges::busy, x -> x.plan(300));
            leavesAll(Edges::fresh, x -> x.plan(300));
        });
        edge("Promise 12: on a copy: a plan that finds none changes nothing but planned", () -> {
            Recipe none = () -> {
                CraneTurns x = busy();
                x.plan(1);
                return x;
            };
            due("none", -1, busy().plan(1));
            leavesAll(none, x -> x.plan(1));
        });
        edge("Promise 12: on a copy: the same plan again answers the same", () -> {
            CraneTurns x = busy();
            int first = x.plan(300);
            int giving = x.planned(0);
            x.plan(2);
            due("again", first, x.plan(300));
            due("its giving", giving, x.planned(0));
        });
        edge("Promise 12: on a copy: given so, it comes so", () -> {
            CraneTurns x = busy();
            int seconds = x.plan(300);
            x.give(x.planned(0) / 10, x.planned(0) % 10);
            x.run(seconds - 1);
            due("not all done", 1, undone(x) > 0 ? 1 : 0);
            x.run(1);
            due("all done", 0, undone(x));
        });
        edge("Promise 12: on a copy: a job from a place to another one", () -> {
            CraneTurns x = made(1, 1, 5, 1);
            x.job(30, 10, 0);
            due("plan", 12, x.plan(12));
            due("one less", -1, x.plan(11));
        });
        edge("Promise 12: on a copy: amid a job, in each of its seconds", () -> {
            CraneTurns x = made(1, 1, 5, 3);
            x.job(5, 12, 0);
            x.give(0, 0);
            for (int left = 9; left > 0; left--) {
                due("seconds left", left, x.plan(300));
                x.run(1);
            }
            due("none left", 0, x.plan(300));
        });
        edge("Promise 12: on a copy: a neighbour gives way within its reach, up", () -> {
            for (int high = 24; high <= 25; high++) {
                CraneTurns x = made(2, 10, 5, 1);
                x.crane(1, 20, 20, high);
                x.job(15, 15, 0);
                due("up to " + high, high == 25 ? 5 : -1, x.plan(300));
            }
        });
        edge("Promise 12: on a copy: a neighbour gives way within its reach, down", () -> {
            for (int low = 25; low <= 26; low++) {
                CraneTurns x = made(2, 10, 5, 1);
                x.crane(1, 60, 0, 200);
                x.crane(0, 30, low, 30);
                x.job(35, 35, 0);
                due("down to " + low, low == 25 ? 7 : -1, x.plan(300));
            }
        });
    }

    /** The recipe has made the same plan already, so the call may not change anything at all. */
    private static void leavesAll(Recipe recipe, Act samePlan) {
        allows(recipe, samePlan);
        unchanged(recipe, samePlan);
    }

    private static int undone(CraneTurns x) {
        int count = 0;
        for (int j = 0; j < 5; j++) {
            count += x.state(j, 0) == 3 ? 0 : 1;
        }
        return count;
    }

    private static void firstOfTheLeast() {
        edge("Promise 12: the first of the least: of two cranes the lower", () -> {
            CraneTurns x = made(2, 10, 5, 1);
            x.crane(1, 40, 0, 200);
            x.job(20, 20, 0);
            due("as soon by each", 6, x.plan(300));
            givings("the lower", x, 0);
        });
        edge("Promise 12: the least: a second less is better, and no other way", () -> {
            CraneTurns x = made(2, 10, 5, 1);
            x.crane(1, 40, 0, 200);
            x.job(21, 21, 0);
            due("sooner by the upper", 6, x.plan(300));
            givings("the upper", x, 1);
        });
        edge("Promise 12: the first of the least: of equal jobs the lower ahead", () -> {
            CraneTurns x = withJobs(4);
            due("plan", 8, x.plan(300));
            givings("in their order", x, 0, 10, 20, 30);
        });
        edge("Promise 12: ordered by the first job given, then its crane", () -> {
            CraneTurns x = made(2, 10, 5, 1);
            x.crane(1, 100, 0, 200);
            x.job(100, 100, 0);
            x.job(0, 0, 0);
            due("one each", 2, x.plan(300));
            givings("job 0 ahead, though its crane is 1", x, 1, 10);
        });
        edge("Promise 12: ordered by the next job given, then its crane", () -> {
            CraneTurns x = made(3, 10, 5, 1);
            x.crane(2, 200, 0, 200);
            x.crane(1, 100, 0, 200);
            x.job(0, 0, 0);
            x.job(200, 200, 0);
            x.job(100, 100, 0);
            x.job(0, 0, 0);
            due("plan", 4, x.plan(300));
            givings("job by job", x, 0, 12, 21, 30);
        });
        edge("Promise 12: a first job may have to be a later one", () -> {
            CraneTurns x = made(1, 1, 5, 1);
            x.job(100, 100, 0);
            x.job(50, 50, 0);
            due("on its way", 24, x.plan(300));
            givings("job 1 ahead", x, 10, 0);
        });
    }

    private static void orders() {
        edge("Promise 12: all ways to give all free jobs: each order of 4 by one crane", () -> {
            int[][] orders = {
                {0, 1, 2, 3}, {3, 2, 1, 0}, {1, 0, 3, 2}, {2, 3, 0, 1}, {3, 0, 2, 1}, {1, 3, 0, 2},
            };
            for (int[] order : orders) {
                CraneTurns x = made(1, 1, 5, 1);
                int[] place = new int[4];
                for (int i = 0; i < 4; i++) {
                    place[order[i]] = 50 * (i + 1);
                }
                for (int j = 0; j < 4; j++) {
                    x.job(place[j], place[j], 0);
                }
                due("the way up", 48, x.plan(300));
                givings("the way up", x, 10 * order[0], 10 * order[1], 10 * order[2],
                        10 * order[3]);
            }
        });
        edge("Promise 12: all ways to give all free jobs: each crane may get all or none", () -> {
            for (int crane = 0; crane < 3; crane++) {
                CraneTurns x = made(3, 10, 5, 1);
                x.crane(2, 160, crane == 2 ? 0 : 160, 200);
                x.crane(1, 100, crane == 1 ? 0 : 100, 200);
                x.crane(0, 40, 0, crane == 0 ? 200 : 40);
                int place = 40 + 60 * crane;
                for (int j = 0; j < 4; j++) {
                    x.job(place, place, 0);
                }
                due("four by one", 8, x.plan(300));
                givings("four by one", x, crane, 10 + crane, 20 + crane, 30 + crane);
            }
        });
        edge("Promise 12: all ways to give all free jobs: each order by one of two cranes", () -> {
            CraneTurns x = made(2, 10, 5, 1);
            x.crane(1, 200, 0, 200);
            x.job(80, 80, 0);
            x.job(40, 40, 0);
            x.job(120, 120, 0);
            x.job(160, 160, 0);
            due("two each", 20, x.plan(300));
            givings("toward each other", x, 10, 0, 31, 21);
            x.broken(1, true);
            due("four by one", 40, x.plan(300));
            givings("the way up", x, 10, 0, 20, 30);
        });
        edge("Promise 12: all free jobs: each of them once", () -> {
            CraneTurns x = made(2, 10, 5, 1);
            x.crane(1, 100, 0, 200);
            x.job(10, 10, 0);
            x.job(200, 200, 0);
            due("the far one too", 22, x.plan(300));
            givings("one each", x, 0, 11);
        });
        edge("Promise 12: behind those that are given already", () -> {
            CraneTurns x = made(1, 1, 5, 1);
            x.job(50, 50, 0);
            x.job(10, 10, 0);
            x.give(0, 0);
            due("up and back", 22, x.plan(300));
            givings("the free one", x, 10);
        });
    }

    // Promise 13

    private static void plannedIndex() {
        edge("Promise 13: index: k is below 0", () -> {
            for (int k : new int[] {-1, -2, Integer.MIN_VALUE}) {
                refuses(INDEX, Edges::busy, x -> x.planned(k));
                refuses(INDEX, BARE, x -> x.planned(k));
            }
            allows(Edges::busy, x -> x.planned(0));
        });
        edge("Promise 13: no k is too large: -1 when there are not so many", () -> {
            CraneTurns x = withJobs(4);
            x.plan(300);
            for (int k : new int[] {4, 5, 8, 1000, Integer.MAX_VALUE}) {
                due("planned(" + k + ")", -1, x.planned(k));
            }
        });
    }

    private static void plannedGivings() {
        edge("Promise 13: 0 first: of 1 to 4 givings the first and the last", () -> {
            for (int count = 1; count <= 4; count++) {
                CraneTurns x = withJobs(count);
                x.plan(300);
                due("the first of " + count, 0, x.planned(0));
                due("the last of " + count, 10 * (count - 1), x.planned(count - 1));
                due("not so many as " + (count + 1), -1, x.planned(count));
            }
        });
        edge("Promise 13: 10 times the job and the crane: the last job and the last crane", () -> {
            CraneTurns x = made(3, 10, 20, 1);
            x.crane(2, 200, 200, 200);
            for (int j = 0; j < 7; j++) {
                x.give(x.job(0, 0, 0), 0);
            }
            x.job(200, 200, 0);
            due("plan", 14, x.plan(300));
            givings("72", x, 72);
        });
        edge("Promise 13: -1 when none was planned ever", () -> {
            due("no track", -1, new CraneTurns().planned(0));
            due("no plan", -1, withJobs(1).planned(0));
        });
    }

    private static void plannedOfTheLatest() {
        edge("Promise 13: -1 when none was found, though the plan ahead of it had some", () -> {
            CraneTurns x = withJobs(2);
            x.plan(300);
            givings("found", x, 0, 10);
            due("none", -1, x.plan(3));
            givings("none", x);
        });
        edge("Promise 13: the latest plan's: fewer givings than the plan ahead of it", () -> {
            CraneTurns x = withJobs(4);
            x.plan(300);
            x.give(0, 0);
            x.give(1, 0);
            x.give(2, 0);
            givings("kept till the next plan", x, 0, 10, 20, 30);
            x.plan(300);
            givings("the next", x, 30);
            x.give(3, 0);
            x.plan(300);
            givings("no free job", x);
        });
        edge("Promise 13: the latest plan's: a refused plan is none", () -> {
            CraneTurns x = withJobs(4);
            x.plan(300);
            tried(x, y -> y.plan(0));
            tried(x, y -> y.plan(301));
            x.job(0, 0, 0);
            tried(x, y -> y.plan(300));
            givings("as it was", x, 0, 10, 20, 30);
        });
        edge("Promise 13: the latest plan's: seconds, givings and takings leave it as it is", () -> {
            CraneTurns x = withJobs(3);
            x.plan(300);
            x.give(2, 0);
            x.take(2);
            x.give(2, 0);
            x.run(5);
            x.broken(0, true);
            givings("as it was", x, 0, 10, 20);
        });
    }
}
