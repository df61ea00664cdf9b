/** The boundary cases of promises 1 to 4: a new object, track, crane, job. */
public final class SetupEdgesTest extends Edges {
    public static void main(String[] args) {
        newObject();
        trackRange();
        trackEffect();
        trackTurn();
        craneIndex();
        craneTurn();
        craneRange();
        craneMeaning();
        craneOrderOfChecks();
        craneReach();
        jobTurnAndRange();
        jobNumbers();
        jobMeaning();
        end();
    }

    private static void newObject() {
        edge("Promise 1: no track: no crane 0", () -> {
            refuses(INDEX, BARE, x -> x.crane(0, 0, 0, 200));
            refuses(INDEX, BARE, x -> x.broken(0, true));
            refuses(INDEX, BARE, x -> x.broken(0, false));
            refuses(INDEX, BARE, x -> x.at(0, 0));
        });
        edge("Promise 1: no track: no job 0", () -> {
            refuses(INDEX, BARE, x -> x.give(0, 0));
            refuses(INDEX, BARE, x -> x.take(0));
            refuses(INDEX, BARE, x -> x.state(0, 0));
        });
        edge("Promise 1: no track: job, run and plan are out of turn", () -> {
            refuses(TURN, BARE, x -> x.job(0, 0, 0));
            refuses(TURN, BARE, x -> x.run(0));
            refuses(TURN, BARE, x -> x.run(1));
            refuses(TURN, BARE, x -> x.plan(1));
        });
        edge("Promise 1: no track: near is 200, nothing is planned", () -> {
            due("near", 200, new CraneTurns().near());
            due("planned(0)", -1, new CraneTurns().planned(0));
        });
        edge("Promise 1: no track: two objects share nothing", () -> {
            CraneTurns x = busy();
            refuses(TURN, BARE, y -> y.run(0));
            due("the clock of the other", 7, x.run(0));
        });
    }

    private static void trackRange() {
        edge("Promise 2: range: cranes are 1 to 3", () ->
                limits(RANGE, BARE, 1, 3, (x, v) -> x.track(v, 1, 1, 1)));
        edge("Promise 2: range: the gap is 1 .. 30", () ->
                limits(RANGE, BARE, 1, 30, (x, v) -> x.track(3, v, 1, 1)));
        edge("Promise 2: range: the gap is 1 .. 30 with one crane too", () ->
                limits(RANGE, BARE, 1, 30, (x, v) -> x.track(1, v, 1, 1)));
        edge("Promise 2: range: the speed is 1 .. 20", () ->
                limits(RANGE, BARE, 1, 20, (x, v) -> x.track(2, 1, v, 1)));
        edge("Promise 2: range: the lift is 1 .. 30", () ->
                limits(RANGE, BARE, 1, 30, (x, v) -> x.track(2, 1, 1, v)));
        edge("Promise 2: range: a refused track is none, one may be made then", () -> {
            CraneTurns x = new CraneTurns();
            tried(x, y -> y.track(3, 31, 20, 30));
            x.track(2, 30, 20, 30);
            places("behind a refused one", x, 0, 30);
        });
    }

    private static void trackEffect() {
        edge("Promise 2: the least number of cranes is 1, the most 3", () -> {
            refuses(INDEX, () -> made(1, 5, 1, 1), x -> x.at(1, 0));
            refuses(INDEX, () -> made(2, 5, 1, 1), x -> x.at(2, 0));
            refuses(INDEX, () -> made(3, 5, 1, 1), x -> x.at(3, 0));
            allows(() -> made(3, 5, 1, 1), x -> x.at(2, 0));
        });
        edge("Promise 2: cranes at places 0, gap, 2 gap, with the least gap and the most", () -> {
            places("gap 1", made(3, 1, 1, 1), 0, 1, 2);
            places("gap 30", made(3, 30, 1, 1), 0, 30, 60);
        });
        edge("Promise 2: all with a reach from 0 to 200", () -> {
            for (int c = 0; c < 3; c++) {
                int crane = c;
                allows(() -> withJob(0, 200), x -> x.give(0, crane));
                allows(() -> withJob(200, 0), x -> x.give(0, crane));
            }
        });
        edge("Promise 2: nothing has gone, is given or broken at first", () -> {
            CraneTurns x = made(3, 10, 5, 2);
            due("clock", 0, x.run(0));
            for (int c = 0; c < 3; c++) {
                due("at hand", -1, x.at(c, 1));
                for (int what = 2; what < 8; what++) {
                    due("at(.., " + what + ")", 0, x.at(c, what));
                }
                x.broken(c, true);
            }
        });
    }

    private static CraneTurns withJob(int from, int to) {
        CraneTurns x = made(3, 30, 20, 30);
        x.job(from, to, 0);
        return x;
    }

    private static void trackTurn() {
        edge("Promise 2: turn: it is made", () -> {
            refuses(TURN, () -> made(1, 1, 1, 1), x -> x.track(3, 30, 20, 30));
            refuses(TURN, Edges::fresh, x -> x.track(3, 10, 5, 4));
            refuses(TURN, Edges::busy, x -> x.track(1, 1, 1, 1));
        });
        edge("Promise 2: turn is looked at ahead of range", () -> {
            refuses(TURN, Edges::busy, x -> x.track(0, 1, 1, 1));
            refuses(TURN, Edges::busy, x -> x.track(1, 31, 1, 1));
            refuses(TURN, Edges::busy, x -> x.track(1, 1, 0, 1));
            refuses(TURN, Edges::busy, x -> x.track(1, 1, 1, 31));
        });
    }

    private static void craneIndex() {
        edge("Promise 3: index: no such crane", () -> {
            Recipe one = () -> made(1, 10, 5, 2);
            refuses(INDEX, one, x -> x.crane(1, 100, 0, 200));
            refuses(INDEX, Edges::fresh, x -> x.crane(-1, 0, 0, 200));
            refuses(INDEX, Edges::fresh, x -> x.crane(3, 190, 0, 200));
            refuses(INDEX, Edges::fresh, x -> x.crane(Integer.MIN_VALUE, 0, 0, 200));
            refuses(INDEX, Edges::fresh, x -> x.crane(Integer.MAX_VALUE, 0, 0, 200));
        });
        edge("Promise 3: index: the first and the last crane are such", () -> {
            allows(Edges::fresh, x -> x.crane(0, 30, 0, 200));
            allows(Edges::fresh, x -> x.crane(2, 190, 0, 200));
        });
    }

    private static void craneTurn() {
        Act move = x -> x.crane(1, 70, 0, 200);
        edge("Promise 3: turn: a second has gone", () -> {
            allows(() -> freshThen(x -> x.run(0)), move);
            refuses(TURN, () -> freshThen(x -> x.run(1)), move);
            refuses(TURN, () -> freshThen(x -> x.run(1000)), move);
        });
        edge("Promise 3: turn: a job was given ever", () -> {
            refuses(TURN, () -> freshThen(x -> x.give(0, 0)), move);
            refuses(TURN, () -> freshThen(x -> x.give(0, 1)), move);
        });
        edge("Promise 3: turn: a job was given ever, and taken again", () ->
                refuses(TURN, () -> freshThen(x -> {
                    x.give(0, 0);
                    x.take(0);
                }), move));
        edge("Promise 3: turn: a refused giving is none", () ->
                allows(() -> freshThen(x -> tried(x, y -> y.give(1, 3))), move));
        edge("Promise 3: turn: a giving out of reach is none", () ->
                allows(() -> freshThen(x -> {
                    x.job(200, 200, 0);
                    tried(x, y -> y.give(2, 0));
                }), move));
        edge("Promise 3: turn: jobs, plans and breakdowns do not end the time for it", () ->
                allows(() -> freshThen(x -> {
                    x.job(0, 0, 0);
                    x.plan(300);
                    x.broken(1, true);
                }), move));
        edge("Promise 3: turn: it may be called again and again, the latest holds", () -> {
            CraneTurns x = fresh();
            x.crane(1, 70, 0, 200);
            x.crane(1, 80, 80, 80);
            places("the latest", x, 20, 80, 150);
            due("its reach", 0, tried(x, y -> y.give(0, 1)).equals(MEANING) ? 0 : 1);
        });
    }

    private static CraneTurns freshThen(Act more) {
        CraneTurns x = fresh();
        more.on(x);
        return x;
    }

    private static void craneRange() {
        Recipe one = () -> made(1, 10, 5, 2);
        edge("Promise 3: range: low is 0 or more", () -> {
            allows(one, x -> x.crane(0, 5, 0, 10));
            refuses(RANGE, one, x -> x.crane(0, 5, -1, 10));
            refuses(RANGE, one, x -> x.crane(0, 5, Integer.MIN_VALUE, 10));
        });
        edge("Promise 3: range: high is 200 at most", () -> {
            allows(one, x -> x.crane(0, 5, 0, 200));
            refuses(RANGE, one, x -> x.crane(0, 5, 0, 201));
            refuses(RANGE, one, x -> x.crane(0, 5, 0, Integer.MAX_VALUE));
        });
        edge("Promise 3: range: the place is not below low", () -> {
            allows(one, x -> x.crane(0, 50, 50, 60));
            refuses(RANGE, one, x -> x.crane(0, 49, 50, 60));
            refuses(RANGE, one, x -> x.crane(0, Integer.MIN_VALUE, 50, 60));
        });
        edge("Promise 3: range: the place is not above high", () -> {
            allows(one, x -> x.crane(0, 60, 50, 60));
            refuses(RANGE, one, x -> x.crane(0, 61, 50, 60));
            refuses(RANGE, one, x -> x.crane(0, Integer.MAX_VALUE, 50, 60));
        });
        edge("Promise 3: range: low, place and high may be one place", () -> {
            allows(one, x -> x.crane(0, 0, 0, 0));
            allows(one, x -> x.crane(0, 77, 77, 77));
            allows(one, x -> x.crane(0, 200, 200, 200));
            refuses(RANGE, one, x -> x.crane(0, -1, -1, -1));
            refuses(RANGE, one, x -> x.crane(0, 201, 201, 201));
        });
        edge("Promise 3: range: low is not above high", () -> {
            refuses(RANGE, one, x -> x.crane(0, 55, 60, 50));
            refuses(RANGE, one, x -> x.crane(0, 60, 60, 59));
            refuses(RANGE, one, x -> x.crane(0, 59, 60, 59));
        });
        edge("Promise 3: range: a refused reach is not taken in any place of it", () -> {
            for (int p = 0; p <= 200; p += 5) {
                Probe reach = reachAt(p);
                changesNothing(Edges::fresh, x -> x.crane(1, 60, 61, 150), reach);
                changesNothing(Edges::fresh, x -> x.crane(1, 60, 0, 201), reach);
                changesNothing(Edges::fresh, x -> x.crane(1, 145, 0, 200), reach);
                changesNothing(Edges::fresh, x -> x.crane(3, 60, 0, 200), reach);
            }
        });
    }

    private static Probe reachAt(int place) {
        return (x, seen) -> {
            int job = x.job(place, place, 0);
            for (int c = 0; c < 3; c++) {
                int crane = c;
                String answer = tried(x, y -> y.give(job, crane));
                seen.append(answer).append(' ');
                if (answer.equals(OK)) {
                    x.take(job);
                }
            }
        };
    }

    /** Cranes at 20, 60 and 150, the gap is 10. */
    private static void craneMeaning() {
        edge("Promise 3: meaning: nearer to its lower neighbour than the gap", () -> {
            allows(Edges::fresh, x -> x.crane(1, 30, 0, 200));
            refuses(MEANING, Edges::fresh, x -> x.crane(1, 29, 0, 200));
            refuses(MEANING, Edges::fresh, x -> x.crane(1, 20, 0, 200));
            allows(Edges::fresh, x -> x.crane(2, 70, 0, 200));
            refuses(MEANING, Edges::fresh, x -> x.crane(2, 69, 0, 200));
        });
        edge("Promise 3: meaning: nearer to its upper neighbour than the gap", () -> {
            allows(Edges::fresh, x -> x.crane(1, 140, 0, 200));
            refuses(MEANING, Edges::fresh, x -> x.crane(1, 141, 0, 200));
            refuses(MEANING, Edges::fresh, x -> x.crane(1, 150, 0, 200));
            allows(Edges::fresh, x -> x.crane(0, 50, 0, 200));
            refuses(MEANING, Edges::fresh, x -> x.crane(0, 51, 0, 200));
        });
        edge("Promise 3: meaning: its lower neighbour passed", () -> {
            refuses(MEANING, Edges::fresh, x -> x.crane(1, 10, 0, 200));
            refuses(MEANING, Edges::fresh, x -> x.crane(1, 0, 0, 200));
            refuses(MEANING, Edges::fresh, x -> x.crane(2, 40, 0, 200));
            refuses(MEANING, Edges::fresh, x -> x.crane(2, 0, 0, 200));
        });
        edge("Promise 3: meaning: its upper neighbour passed", () -> {
            refuses(MEANING, Edges::fresh, x -> x.crane(1, 160, 0, 200));
            refuses(MEANING, Edges::fresh, x -> x.crane(1, 200, 0, 200));
            refuses(MEANING, Edges::fresh, x -> x.crane(0, 100, 0, 200));
            refuses(MEANING, Edges::fresh, x -> x.crane(0, 200, 0, 200));
        });
        edge("Promise 3: meaning: no neighbour below the first nor above the last", () -> {
            allows(Edges::fresh, x -> x.crane(0, 0, 0, 200));
            allows(Edges::fresh, x -> x.crane(2, 200, 0, 200));
            allows(() -> made(1, 30, 1, 1), x -> x.crane(0, 200, 0, 200));
        });
        edge("Promise 3: meaning: no room at all between two at twice the gap less 1", () -> {
            Recipe tight = () -> made(3, 10, 5, 2);
            allows(tight, x -> x.crane(1, 10, 0, 200));
            refuses(MEANING, tight, x -> x.crane(1, 9, 0, 200));
            refuses(MEANING, tight, x -> x.crane(1, 11, 0, 200));
        });
        edge("Promise 3: meaning: the least gap and the most", () -> {
            allows(() -> made(2, 1, 1, 1), x -> x.crane(1, 1, 0, 200));
            refuses(MEANING, () -> made(2, 1, 1, 1), x -> x.crane(1, 0, 0, 200));
            allows(() -> made(2, 30, 1, 1), x -> x.crane(1, 30, 0, 200));
            refuses(MEANING, () -> made(2, 30, 1, 1), x -> x.crane(1, 29, 0, 200));
        });
        edge("Promise 3: meaning: reaches may lie over each other or apart", () -> {
            allows(Edges::fresh, x -> x.crane(1, 60, 0, 200));
            allows(Edges::fresh, x -> x.crane(1, 60, 60, 60));
        });
    }

    private static void craneOrderOfChecks() {
        Recipe gone = () -> freshThen(x -> x.run(1));
        edge("Promise 3: index is looked at ahead of turn", () ->
                refuses(INDEX, gone, x -> x.crane(3, 190, 0, 200)));
        edge("Promise 3: index is looked at ahead of range", () -> {
            refuses(INDEX, Edges::fresh, x -> x.crane(3, 190, 0, 201));
            refuses(INDEX, BARE, x -> x.crane(0, -1, 0, 200));
        });
        edge("Promise 3: turn is looked at ahead of range", () ->
                refuses(TURN, gone, x -> x.crane(1, 60, -1, 200)));
        edge("Promise 3: turn is looked at ahead of meaning", () -> {
            refuses(TURN, gone, x -> x.crane(1, 0, 0, 200));
            refuses(TURN, () -> freshThen(x -> x.give(0, 0)), x -> x.crane(1, 0, 0, 200));
        });
        edge("Promise 3: range is looked at ahead of meaning", () -> {
            refuses(RANGE, Edges::fresh, x -> x.crane(1, 0, 0, 201));
            refuses(RANGE, Edges::fresh, x -> x.crane(1, 0, 1, 200));
            refuses(RANGE, Edges::fresh, x -> x.crane(1, -1, 0, 200));
        });
    }

    private static void craneReach() {
        edge("Promise 3: a crane's place and reach: the reach has low and high", () -> {
            Recipe reach = () -> freshThen(x -> {
                x.crane(1, 60, 55, 65);
                x.job(55, 65, 0);
                x.job(65, 55, 0);
                x.job(54, 60, 0);
                x.job(60, 66, 0);
            });
            allows(reach, x -> x.give(2, 1));
            allows(reach, x -> x.give(3, 1));
            refuses(MEANING, reach, x -> x.give(4, 1));
            refuses(MEANING, reach, x -> x.give(5, 1));
        });
        edge("Promise 3: a crane's place and reach: no other crane's", () -> {
            CraneTurns x = fresh();
            x.crane(1, 90, 90, 90);
            places("the one alone", x, 20, 90, 150);
            due("job 0 to crane 0", 0, tried(x, y -> y.give(0, 0)).equals(OK) ? 0 : 1);
            due("job 1 to crane 2", 0, tried(x, y -> y.give(1, 2)).equals(OK) ? 0 : 1);
        });
    }

    private static void jobTurnAndRange() {
        edge("Promise 4: turn: there is no track", () -> refuses(TURN, BARE, x -> x.job(1, 2, 3)));
        edge("Promise 4: turn is looked at ahead of range", () -> {
            refuses(TURN, BARE, x -> x.job(-1, 0, 0));
            refuses(TURN, BARE, x -> x.job(0, 201, 0));
            refuses(TURN, BARE, x -> x.job(0, 0, 5001));
        });
        edge("Promise 4: range: FROM is a place 0 .. 200", () ->
                limits(RANGE, Edges::busy, 0, 200, (x, v) -> x.job(v, 100, 0)));
        edge("Promise 4: range: TO is a place 0 .. 200", () ->
                limits(RANGE, Edges::busy, 0, 200, (x, v) -> x.job(100, v, 0)));
        edge("Promise 4: range: READY is 0 .. 5,000", () ->
                limits(RANGE, Edges::busy, 0, 5000, (x, v) -> x.job(100, 100, v)));
        edge("Promise 4: range: a READY that has gone is allowed", () -> {
            CraneTurns x = made(1, 1, 1, 1);
            x.run(1000);
            x.job(0, 0, 0);
            x.give(0, 0);
            x.run(2);
            due("done", 1002, x.state(0, 2));
        });
        edge("Promise 4: range: FROM and TO may be one place", () ->
                allows(Edges::busy, x -> x.job(7, 7, 0)));
        edge("Promise 4: a job that no crane reaches is allowed", () ->
                allows(() -> {
                    CraneTurns x = made(1, 1, 1, 1);
                    x.crane(0, 5, 5, 5);
                    return x;
                }, x -> x.job(4, 6, 0)));
    }

    private static void jobNumbers() {
        edge("Promise 4: one more job: its number, 0 first, 7 last", () -> {
            CraneTurns x = made(1, 1, 1, 1);
            for (int j = 0; j < 8; j++) {
                due("the number", j, x.job(j, j, 0));
                due("free", 0, x.state(j, 0));
                due("no crane", -1, x.state(j, 1));
                due("not done", -1, x.state(j, 2));
            }
        });
        edge("Promise 4: a refused job takes no number", () -> {
            CraneTurns x = made(1, 1, 1, 1);
            tried(x, y -> y.job(201, 0, 0));
            due("the number", 0, x.job(0, 0, 0));
            tried(x, y -> y.job(0, 0, -1));
            due("the number", 1, x.job(0, 0, 0));
        });
    }

    private static void jobMeaning() {
        edge("Promise 4: meaning: there are 8", () -> {
            allows(() -> withJobs(7), x -> x.job(200, 200, 5000));
            refuses(MEANING, () -> withJobs(8), x -> x.job(0, 0, 0));
            refuses(MEANING, () -> withJobs(8), x -> x.job(200, 200, 5000));
        });
        edge("Promise 4: meaning: there are 8, those that are done too", () -> {
            Recipe done = () -> {
                CraneTurns x = withJobs(8);
                for (int j = 0; j < 8; j++) {
                    x.give(j, 0);
                }
                x.run(16);
                return x;
            };
            due("the last is done", 3, done.make().state(7, 0));
            refuses(MEANING, done, x -> x.job(0, 0, 0));
        });
        edge("Promise 4: range is looked at ahead of meaning", () -> {
            refuses(RANGE, () -> withJobs(8), x -> x.job(-1, 0, 0));
            refuses(RANGE, () -> withJobs(8), x -> x.job(0, 201, 0));
            refuses(RANGE, () -> withJobs(8), x -> x.job(0, 0, 5001));
        });
    }

    private static CraneTurns withJobs(int count) {
        CraneTurns x = made(1, 1, 1, 1);
        for (int j = 0; j < count; j++) {
            x.job(0, 0, 0);
        }
        return x;
    }
}
