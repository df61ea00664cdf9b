/** The boundary cases of promises 5 to 7: give, take, broken. */
public final class JobsEdgesTest extends Edges {
    public static void main(String[] args) {
        giveIndex();
        giveTurn();
        giveMeaning();
        giveOrderOfChecks();
        giveQueue();
        takeIndex();
        takeTurn();
        takeOfAQueue();
        brokenIndexAndTurn();
        brokenDoesNothing();
        brokenHoldsTheLoad();
        end();
    }

    /** Jobs 0 .. 4 and cranes 0 .. 2, see Edges.busy. */
    private static void giveIndex() {
        edge("Promise 5: index: no such job", () -> {
            refuses(INDEX, Edges::busy, x -> x.give(-1, 0));
            refuses(INDEX, Edges::busy, x -> x.give(5, 0));
            refuses(INDEX, Edges::busy, x -> x.give(8, 0));
            refuses(INDEX, Edges::busy, x -> x.give(Integer.MIN_VALUE, 0));
            refuses(INDEX, Edges::busy, x -> x.give(Integer.MAX_VALUE, 0));
        });
        edge("Promise 5: index: no such job when there is none", () ->
                refuses(INDEX, () -> made(1, 1, 1, 1), x -> x.give(0, 0)));
        edge("Promise 5: index: no such crane", () -> {
            refuses(INDEX, Edges::busy, x -> x.give(4, -1));
            refuses(INDEX, Edges::busy, x -> x.give(4, 3));
            refuses(INDEX, Edges::busy, x -> x.give(4, Integer.MIN_VALUE));
            refuses(INDEX, Edges::busy, x -> x.give(4, Integer.MAX_VALUE));
            refuses(INDEX, () -> one(0, 0), x -> x.give(0, 1));
        });
        edge("Promise 5: index: the first and the last job, the first and the last crane", () -> {
            for (int c = 0; c < 3; c++) {
                int crane = c;
                allows(JobsEdgesTest::eightJobs, x -> x.give(0, crane));
                allows(JobsEdgesTest::eightJobs, x -> x.give(7, crane));
            }
            refuses(INDEX, JobsEdgesTest::eightJobs, x -> x.give(8, 0));
        });
    }

    private static CraneTurns one(int from, int to) {
        CraneTurns x = made(1, 1, 5, 2);
        x.job(from, to, 0);
        return x;
    }

    private static CraneTurns eightJobs() {
        CraneTurns x = made(3, 10, 5, 2);
        for (int j = 0; j < 8; j++) {
            x.job(0, 0, 0);
        }
        return x;
    }

    private static void giveTurn() {
        edge("Promise 5: turn: the job is given, to this crane or another", () -> {
            refuses(TURN, Edges::busy, x -> x.give(3, 1));
            refuses(TURN, Edges::busy, x -> x.give(3, 0));
        });
        edge("Promise 5: turn: the job is at hand, of this crane or another", () -> {
            refuses(TURN, Edges::busy, x -> x.give(1, 0));
            refuses(TURN, Edges::busy, x -> x.give(1, 1));
            refuses(TURN, Edges::busy, x -> x.give(2, 1));
        });
        edge("Promise 5: turn: the job is done", () -> {
            refuses(TURN, Edges::busy, x -> x.give(0, 0));
            refuses(TURN, Edges::busy, x -> x.give(0, 1));
        });
        edge("Promise 5: turn: a free job, and one that is free again", () -> {
            allows(Edges::busy, x -> x.give(4, 0));
            allows(Edges::busy, x -> {
                x.take(3);
                x.give(3, 0);
            });
        });
    }

    /** Crane 1 reaches 50 .. 60. */
    private static CraneTurns reach(int from, int to) {
        CraneTurns x = made(2, 10, 5, 2);
        x.crane(1, 55, 50, 60);
        x.job(from, to, 0);
        return x;
    }

    private static void giveMeaning() {
        edge("Promise 5: meaning: a reach has its low and its high place", () -> {
            allows(() -> reach(50, 60), x -> x.give(0, 1));
            allows(() -> reach(60, 50), x -> x.give(0, 1));
            allows(() -> reach(50, 50), x -> x.give(0, 1));
            allows(() -> reach(60, 60), x -> x.give(0, 1));
        });
        edge("Promise 5: meaning: FROM is out of reach", () -> {
            refuses(MEANING, () -> reach(49, 55), x -> x.give(0, 1));
            refuses(MEANING, () -> reach(61, 55), x -> x.give(0, 1));
        });
        edge("Promise 5: meaning: TO is out of reach", () -> {
            refuses(MEANING, () -> reach(55, 49), x -> x.give(0, 1));
            refuses(MEANING, () -> reach(55, 61), x -> x.give(0, 1));
        });
        edge("Promise 5: meaning: both are out of reach, on both sides of it", () -> {
            refuses(MEANING, () -> reach(0, 200), x -> x.give(0, 1));
            refuses(MEANING, () -> reach(200, 0), x -> x.give(0, 1));
        });
        edge("Promise 5: meaning: another crane's reach is not asked", () ->
                allows(() -> reach(0, 200), x -> x.give(0, 0)));
        edge("Promise 5: meaning: a neighbour in the way and a breakdown refuse nothing", () -> {
            allows(Edges::busy, x -> {
                int job = x.job(100, 100, 0);
                x.give(job, 0);
            });
            allows(Edges::busy, x -> {
                int job = x.job(60, 200, 0);
                x.give(job, 2);
            });
        });
    }

    private static void giveOrderOfChecks() {
        edge("Promise 5: index is looked at ahead of turn", () -> {
            refuses(INDEX, Edges::busy, x -> x.give(0, 3));
            refuses(INDEX, Edges::busy, x -> x.give(3, -1));
        });
        edge("Promise 5: index is looked at ahead of meaning", () -> {
            refuses(INDEX, () -> reach(0, 200), x -> x.give(1, 1));
            refuses(INDEX, () -> reach(0, 200), x -> x.give(0, 2));
        });
        edge("Promise 5: turn is looked at ahead of meaning", () -> {
            Recipe given = () -> {
                CraneTurns x = reach(0, 200);
                x.give(0, 0);
                return x;
            };
            refuses(TURN, given, x -> x.give(0, 1));
            refuses(TURN, Edges::busy, x -> x.give(0, 2));
        });
    }

    private static void giveQueue() {
        edge("Promise 5: gives a job: it is given, to the crane", () -> {
            CraneTurns x = busy();
            x.give(4, 0);
            due("given", 1, x.state(4, 0));
            due("its crane", 0, x.state(4, 1));
            due("not done", -1, x.state(4, 2));
            due("one more", 1, x.at(0, 2));
            due("the one at hand stays", 1, x.at(0, 1));
        });
        edge("Promise 5: a crane holds all 8 jobs", () -> {
            CraneTurns x = eightJobs();
            for (int j = 7; j >= 0; j--) {
                x.give(j, 2);
                due("given", 8 - j, x.at(2, 2));
            }
            due("the others have none", 0, x.at(0, 2) + x.at(1, 2));
        });
        edge("Promise 5: behind those that it was given ahead of it, all 8 of them", () -> {
            CraneTurns x = eightJobs();
            int[] order = {5, 0, 7, 3, 6, 1, 4, 2};
            for (int job : order) {
                x.give(job, 0);
            }
            for (int i = 0; i < 8; i++) {
                x.run(1);
                due("at hand", order[i], x.at(0, 1));
                due("more", 7 - i, x.at(0, 2));
                x.run(3);
                due("done", 4 * (i + 1), x.state(order[i], 2));
            }
            due("none at hand", -1, x.at(0, 1));
            due("none more", 0, x.at(0, 2));
        });
        edge("Promise 5: given in no second: it is at hand when a second goes, not ahead", () -> {
            CraneTurns x = one(0, 0);
            x.give(0, 0);
            x.run(0);
            due("given", 1, x.state(0, 0));
            x.run(1);
            due("at hand", 2, x.state(0, 0));
        });
    }

    private static void takeIndex() {
        edge("Promise 6: index: no such job", () -> {
            refuses(INDEX, Edges::busy, x -> x.take(-1));
            refuses(INDEX, Edges::busy, x -> x.take(5));
            refuses(INDEX, Edges::busy, x -> x.take(8));
            refuses(INDEX, Edges::busy, x -> x.take(Integer.MIN_VALUE));
            refuses(INDEX, Edges::busy, x -> x.take(Integer.MAX_VALUE));
            refuses(INDEX, () -> made(1, 1, 1, 1), x -> x.take(0));
        });
        edge("Promise 6: index: the first and the last job", () -> {
            allows(JobsEdgesTest::allGiven, x -> x.take(0));
            allows(JobsEdgesTest::allGiven, x -> x.take(7));
            refuses(INDEX, JobsEdgesTest::allGiven, x -> x.take(8));
        });
    }

    private static CraneTurns allGiven() {
        CraneTurns x = eightJobs();
        for (int j = 0; j < 8; j++) {
            x.give(j, 0);
        }
        return x;
    }

    private static CraneTurns after(int seconds) {
        CraneTurns x = one(5, 10);
        x.give(0, 0);
        x.run(seconds);
        return x;
    }

    private static void takeTurn() {
        edge("Promise 6: turn: a free job is not given", () -> {
            refuses(TURN, () -> one(0, 0), x -> x.take(0));
            refuses(TURN, Edges::busy, x -> x.take(4));
        });
        edge("Promise 6: turn: one that was taken is not given", () ->
                refuses(TURN, () -> {
                    CraneTurns x = busy();
                    x.take(3);
                    return x;
                }, x -> x.take(3)));
        edge("Promise 6: turn: at hand, from its first second to its last but one", () -> {
            allows(() -> after(0), x -> x.take(0));
            for (int s = 1; s < 6; s++) {
                int seconds = s;
                due("at hand", 2, after(s).state(0, 0));
                refuses(TURN, () -> after(seconds), x -> x.take(0));
            }
        });
        edge("Promise 6: turn: at hand of a broken crane", () ->
                refuses(TURN, () -> {
                    CraneTurns x = after(3);
                    x.broken(0, true);
                    x.run(1);
                    return x;
                }, x -> x.take(0)));
        edge("Promise 6: turn: a done job is not given", () -> {
            due("done", 3, after(6).state(0, 0));
            refuses(TURN, () -> after(6), x -> x.take(0));
            refuses(TURN, Edges::busy, x -> x.take(0));
        });
        edge("Promise 6: a job that is given, not ready yet, is free again", () -> {
            CraneTurns x = made(1, 1, 5, 2);
            x.job(0, 0, 3);
            x.give(0, 0);
            x.run(3);
            x.take(0);
            due("free", 0, x.state(0, 0));
            x.run(1);
            due("not at hand", -1, x.at(0, 1));
        });
        edge("Promise 6: a job that is given to a broken crane is free again", () -> {
            CraneTurns x = one(0, 0);
            x.give(0, 0);
            x.broken(0, true);
            x.run(9);
            x.take(0);
            due("free", 0, x.state(0, 0));
        });
    }

    private static void takeOfAQueue() {
        edge("Promise 6: free again: no crane, and one less given", () -> {
            CraneTurns x = busy();
            x.take(3);
            due("free", 0, x.state(3, 0));
            due("no crane", -1, x.state(3, 1));
            due("not done", -1, x.state(3, 2));
            due("none given", 0, x.at(1, 2));
            due("the one at hand stays", 2, x.at(1, 1));
        });
        edge("Promise 6: the first, the middle and the last of those that are given", () -> {
            for (int gone : new int[] {0, 3, 7}) {
                CraneTurns x = allGiven();
                x.take(gone);
                due("seven", 7, x.at(0, 2));
                for (int j = 0; j < 8; j++) {
                    if (j != gone) {
                        x.run(1);
                        due("the others in their order", j, x.at(0, 1));
                        x.run(3);
                    }
                }
                due("none more", -1, x.at(0, 1));
            }
        });
        edge("Promise 6: all 8 taken: none is given", () -> {
            CraneTurns x = allGiven();
            for (int j = 0; j < 8; j++) {
                x.take(j);
            }
            due("none", 0, x.at(0, 2));
            x.run(1);
            due("none at hand", -1, x.at(0, 1));
            due("idle", 1, x.at(0, 5));
        });
        edge("Promise 6: taken and given again: behind the others, of this crane or another", () -> {
            CraneTurns x = eightJobs();
            x.give(0, 0);
            x.give(1, 0);
            x.give(2, 0);
            x.take(0);
            x.give(0, 0);
            x.take(2);
            x.give(2, 1);
            due("two", 2, x.at(0, 2));
            due("one", 1, x.at(1, 2));
            due("crane 1", 1, x.state(2, 1));
            x.run(1);
            due("job 1 first", 1, x.at(0, 1));
            x.run(4);
            due("then job 0", 0, x.at(0, 1));
        });
    }

    private static void brokenIndexAndTurn() {
        edge("Promise 7: index: no such crane", () -> {
            for (int crane : new int[] {-1, 3, Integer.MIN_VALUE, Integer.MAX_VALUE}) {
                refuses(INDEX, Edges::busy, x -> x.broken(crane, true));
                refuses(INDEX, Edges::busy, x -> x.broken(crane, false));
            }
            refuses(INDEX, () -> made(1, 1, 1, 1), x -> x.broken(1, true));
        });
        edge("Promise 7: index: the first and the last crane", () -> {
            allows(Edges::busy, x -> x.broken(0, true));
            allows(Edges::busy, x -> x.broken(2, false));
            allows(() -> made(1, 1, 1, 1), x -> x.broken(0, true));
        });
        edge("Promise 7: turn: it works, and is to work", () -> {
            refuses(TURN, () -> made(1, 1, 1, 1), x -> x.broken(0, false));
            refuses(TURN, Edges::busy, x -> x.broken(0, false));
        });
        edge("Promise 7: turn: it is broken, and is to break down", () -> {
            refuses(TURN, Edges::busy, x -> x.broken(2, true));
            refuses(TURN, Edges::fresh, x -> x.broken(2, true));
        });
        edge("Promise 7: turn: it breaks down and works again, again and again", () ->
                allows(() -> made(1, 1, 1, 1), x -> {
                    x.broken(0, true);
                    x.broken(0, false);
                    x.broken(0, true);
                    x.broken(0, false);
                }));
        edge("Promise 7: all cranes may be broken at once", () -> {
            CraneTurns x = made(3, 10, 5, 2);
            x.broken(0, true);
            x.broken(1, true);
            x.broken(2, true);
            x.run(4);
            due("seconds broken", 12, x.at(0, 6) + x.at(1, 6) + x.at(2, 6));
        });
        edge("Promise 7: broken for no second: nothing of it is seen", () -> {
            CraneTurns x = after(2);
            x.broken(0, true);
            x.run(0);
            x.broken(0, false);
            x.run(4);
            due("no second broken", 0, x.at(0, 6));
            due("done", 6, x.state(0, 2));
        });
    }

    private static void brokenDoesNothing() {
        edge("Promise 7: a broken one does nothing: it takes no job", () -> {
            CraneTurns x = one(0, 0);
            x.give(0, 0);
            x.broken(0, true);
            x.run(1);
            due("none at hand", -1, x.at(0, 1));
            due("still given", 1, x.at(0, 2));
            due("a second broken", 1, x.at(0, 6));
            due("none idle", 0, x.at(0, 5));
        });
        edge("Promise 7: a broken one does nothing: it gives no way", () -> {
            CraneTurns x = made(2, 10, 5, 2);
            x.job(5, 5, 0);
            x.give(0, 0);
            x.broken(1, true);
            x.run(3);
            places("it stays", x, 0, 10);
            due("the other is blocked", 3, x.at(0, 4));
            x.broken(1, false);
            x.run(1);
            places("it gives way then", x, 0, 15);
        });
        edge("Promise 7: a broken one does nothing: it does not move, that is not blocked", () -> {
            CraneTurns x = made(2, 10, 5, 2);
            x.job(5, 5, 0);
            x.give(0, 0);
            x.run(1);
            due("blocked", 1, x.at(0, 4));
            x.broken(0, true);
            x.run(5);
            due("not blocked", 1, x.at(0, 4));
            due("broken", 5, x.at(0, 6));
            due("no work", 0, x.at(0, 3));
            due("not idle", 0, x.at(0, 5));
        });
        edge("Promise 7: the others go on", () -> {
            CraneTurns x = made(2, 10, 5, 1);
            x.crane(1, 100, 0, 200);
            x.job(100, 100, 0);
            x.give(0, 1);
            x.broken(0, true);
            x.run(2);
            due("done", 2, x.state(0, 2));
        });
    }

    /** From 5 to 10 at speed 5 with lift 2: to it 1, lifts 2 and 3, with it 4, sets 5 and 6. */
    private static void brokenHoldsTheLoad() {
        edge("Promise 7: breakdowns hold the load: in each second of a job", () -> {
            int[] place = {0, 5, 5, 5, 10, 10};
            int[] does = {0, 2, 2, 3, 4, 4};
            for (int s = 1; s < 6; s++) {
                CraneTurns x = after(s);
                x.broken(0, true);
                x.run(100);
                places("stays behind second " + s, x, place[s]);
                due("does behind second " + s, does[s], x.at(0, 7));
                due("holds the job behind second " + s, 0, x.at(0, 1));
                due("at hand behind second " + s, 2, x.state(0, 0));
                x.broken(0, false);
                x.run(5 - s);
                due("not done ahead of its time", 2, x.state(0, 0));
                x.run(1);
                due("done so much later", 106, x.state(0, 2));
                due("work", 6, x.at(0, 3));
                due("broken", 100, x.at(0, 6));
            }
        });
        edge("Promise 7: breakdowns hold the load: the given ones stay given", () -> {
            CraneTurns x = busy();
            x.broken(1, true);
            x.run(50);
            due("at hand", 2, x.at(1, 1));
            due("one more", 1, x.at(1, 2));
            due("given", 1, x.state(3, 0));
        });
    }
}
