/** The boundary cases of promises 8 to 11 and of a second's terms: run, at, state, near. */
public final class SecondsEdgesTest extends Edges {
    public static void main(String[] args) {
        runTurnAndRange();
        runToTheEnd();
        runInParts();
        ready();
        liftAndSet();
        speed();
        gapAbove();
        gapBelow();
        neighboursAsTheyStandThen();
        kindsOfSeconds();
        givesWayUp();
        givesWayDown();
        givesWayOrder();
        noWayInABusySecond();
        atIndex();
        atValues();
        stateIndex();
        stateValues();
        near();
        allCallsOfAnObject();
        end();
    }

    private static CraneTurns one(int lift, int from, int to, int ready) {
        CraneTurns x = made(1, 1, 5, lift);
        x.job(from, to, ready);
        x.give(0, 0);
        return x;
    }

    /** Two cranes with gap 10, speed 5, lift 1. */
    private static CraneTurns two(int place0, int place1) {
        CraneTurns x = made(2, 10, 5, 1);
        x.crane(1, place1, 0, 200);
        x.crane(0, place0, 0, 200);
        return x;
    }

    private static void goTo(CraneTurns x, int crane, int place) {
        x.give(x.job(place, place, 0), crane);
    }

    // Promise 8

    private static CraneTurns clockAt(int clock) {
        CraneTurns x = made(1, 1, 1, 1);
        for (int i = 0; i < clock / 1000; i++) {
            x.run(1000);
        }
        x.run(clock % 1000);
        return x;
    }

    private static void runTurnAndRange() {
        edge("Promise 8: turn: there is no track", () -> {
            refuses(TURN, BARE, x -> x.run(0));
            refuses(TURN, BARE, x -> x.run(1000));
        });
        edge("Promise 8: turn is looked at ahead of range", () -> {
            refuses(TURN, BARE, x -> x.run(-1));
            refuses(TURN, BARE, x -> x.run(1001));
        });
        edge("Promise 8: range: 0 .. 1,000 seconds", () ->
                limits(RANGE, Edges::busy, 0, 1000, (x, v) -> x.run(v)));
        edge("Promise 8: 0 seconds: the clock, and nothing else", () -> {
            due("clock", 7, busy().run(0));
            changesNothing(Edges::busy, x -> x.run(0), (x, seen) -> {
                for (int what = 0; what < 8; what++) {
                    seen.append(x.at(0, what)).append(' ').append(x.at(1, what)).append(' ');
                }
                seen.append(x.near()).append(' ').append(x.run(40)).append(' ').append(x.state(3, 2));
            });
        });
        edge("Promise 8: 1 and 1,000 seconds: the clock", () -> {
            due("clock", 8, busy().run(1));
            due("clock", 1007, busy().run(1000));
        });
    }

    private static void runToTheEnd() {
        edge("Promise 8: range: not above 100,000 with 1 second left", () -> {
            Recipe last = () -> clockAt(99_999);
            due("clock", 100_000, last.make().run(1));
            refuses(RANGE, last, x -> x.run(2));
            refuses(RANGE, last, x -> x.run(1000));
            refuses(RANGE, last, x -> x.run(Integer.MAX_VALUE));
            refuses(RANGE, last, x -> x.run(-1));
        });
        edge("Promise 8: range: not above 100,000 with 1,000 seconds left, and 999", () -> {
            due("clock", 100_000, clockAt(99_000).run(1000));
            due("clock", 100_000, clockAt(99_001).run(999));
            refuses(RANGE, () -> clockAt(99_001), x -> x.run(1000));
        });
        edge("Promise 8: range: at 100,000 no second more, but 0", () -> {
            Recipe end = () -> clockAt(100_000);
            due("clock", 100_000, end.make().run(0));
            refuses(RANGE, end, x -> x.run(1));
        });
    }

    private static void runInParts() {
        edge("Promise 8: so many seconds, at once or one by one", () -> {
            CraneTurns x = busy();
            CraneTurns y = busy();
            x.run(60);
            for (int s = 0; s < 60; s++) {
                y.run(1);
            }
            for (int c = 0; c < 3; c++) {
                for (int what = 0; what < 8; what++) {
                    due("at(" + c + ", " + what + ")", x.at(c, what), y.at(c, what));
                }
            }
            due("near", x.near(), y.near());
        });
    }

    // Terms: a second, which run lets go by

    private static void ready() {
        edge("Promise 8: taken if the clock is not below its ready second: 0", () -> {
            CraneTurns x = one(1, 0, 0, 0);
            x.run(1);
            due("at hand", 0, x.at(0, 1));
        });
        edge("Promise 8: taken if the clock is not below its ready second: 1 and 5,000", () -> {
            for (int second : new int[] {1, 5000}) {
                CraneTurns x = one(1, 0, 0, second);
                for (int i = 0; i < second / 1000; i++) {
                    x.run(1000);
                }
                due("clock", second, x.run(second % 1000));
                due("none at hand", -1, x.at(0, 1));
                due("idle", second, x.at(0, 5));
                due("given", 1, x.state(0, 0));
                x.run(1);
                due("at hand", 0, x.at(0, 1));
                x.run(1);
                due("done", second + 2, x.state(0, 2));
            }
        });
        edge("Promise 8: the first one that it was given, none behind it", () -> {
            CraneTurns x = one(1, 0, 0, 3);
            x.give(x.job(0, 0, 0), 0);
            x.run(3);
            due("none at hand", -1, x.at(0, 1));
            x.run(2);
            due("the first is done", 5, x.state(0, 2));
            x.run(2);
            due("then the other", 7, x.state(1, 2));
        });
        edge("Promise 8: one without a job at hand: a ready job waits for the one at hand", () -> {
            CraneTurns x = one(2, 0, 0, 0);
            x.give(x.job(0, 0, 0), 0);
            x.run(4);
            due("the first is done", 4, x.state(0, 2));
            due("none at hand in its last second", -1, x.at(0, 1));
            x.run(1);
            due("the next second has the other", 1, x.at(0, 1));
        });
        edge("Promise 8: it was given nothing: idle", () -> {
            CraneTurns x = made(1, 1, 1, 1);
            x.run(1);
            due("idle", 1, x.at(0, 5));
            due("nothing", 0, x.at(0, 7));
        });
    }

    private static void liftAndSet() {
        edge("Promise 8: lifting at once when it is there, with the least lift 1", () -> {
            CraneTurns x = one(1, 0, 0, 0);
            x.run(1);
            due("sets at once, as TO is there", 4, x.at(0, 7));
            x.run(1);
            due("done", 2, x.state(0, 2));
        });
        edge("Promise 8: a goal when it is 1 place off", () -> {
            CraneTurns x = one(1, 1, 1, 0);
            x.run(1);
            due("is there now, lifting", 2, x.at(0, 7));
            places("is there now", x, 1);
            x.run(1);
            due("setting", 4, x.at(0, 7));
            x.run(1);
            due("done", 3, x.state(0, 2));
        });
        edge("Promise 8: a goal when TO is 1 place off", () -> {
            CraneTurns x = one(1, 0, 1, 0);
            x.run(1);
            due("on the way with it", 3, x.at(0, 7));
            places("not gone yet", x, 0);
            x.run(1);
            due("setting", 4, x.at(0, 7));
            places("gone", x, 1);
            x.run(1);
            due("done", 3, x.state(0, 2));
        });
        edge("Promise 8: the most lift 30: 30 seconds of lifting and 30 of setting", () -> {
            CraneTurns x = one(30, 0, 0, 0);
            x.run(29);
            due("lifting", 2, x.at(0, 7));
            x.run(1);
            due("setting", 4, x.at(0, 7));
            x.run(29);
            due("setting still", 4, x.at(0, 7));
            due("at hand still", 2, x.state(0, 0));
            x.run(1);
            due("done", 60, x.state(0, 2));
            due("nothing", 0, x.at(0, 7));
        });
        edge("Promise 8: from end to end of the track and back", () -> {
            CraneTurns x = one(1, 200, 0, 0);
            x.run(40);
            places("at the high end", x, 200);
            due("lifting", 2, x.at(0, 7));
            x.run(41);
            places("at the low end", x, 0);
            due("setting", 4, x.at(0, 7));
            x.run(1);
            due("done", 82, x.state(0, 2));
        });
    }

    private static void speed() {
        edge("Promise 8: by the speed at most, not beyond it: up", () -> {
            int[][] cases = {{4, 4, 2}, {5, 5, 2}, {6, 5, 1}};
            for (int[] c : cases) {
                CraneTurns x = one(2, c[0], 0, 0);
                x.run(1);
                places("to " + c[0], x, c[1]);
                due("does", c[2], x.at(0, 7));
            }
        });
        edge("Promise 8: by the speed at most, not beyond it: down", () -> {
            int[][] cases = {{96, 96, 2}, {95, 95, 2}, {94, 95, 1}};
            for (int[] c : cases) {
                CraneTurns x = made(1, 1, 5, 2);
                x.crane(0, 100, 0, 200);
                goTo(x, 0, c[0]);
                x.run(1);
                places("to " + c[0], x, c[1]);
                due("does", c[2], x.at(0, 7));
            }
        });
        edge("Promise 8: the least speed 1 and the most 20", () -> {
            CraneTurns slow = made(1, 1, 1, 1);
            goTo(slow, 0, 2);
            slow.run(1);
            places("slow", slow, 1);
            CraneTurns fast = made(1, 1, 20, 1);
            goTo(fast, 0, 21);
            fast.run(1);
            places("fast", fast, 20);
            fast.run(1);
            places("fast", fast, 21);
        });
    }

    private static void gapAbove() {
        edge("Promise 8: not nearer than the gap to its upper neighbour", () -> {
            CraneTurns x = two(14, 30);
            x.broken(1, true);
            goTo(x, 0, 50);
            x.run(1);
            places("room for all", x, 19);
            x.run(1);
            places("room for 1", x, 20);
            due("1 place is work", 2, x.at(0, 3));
            x.run(1);
            places("no room", x, 20);
            due("blocked", 1, x.at(0, 4));
        });
        edge("Promise 8: a goal at the gap below a neighbour is reached, 1 above it is not", () -> {
            CraneTurns x = two(15, 30);
            x.broken(1, true);
            goTo(x, 0, 20);
            x.run(1);
            due("lifting", 2, x.at(0, 7));
            CraneTurns y = two(15, 30);
            y.broken(1, true);
            goTo(y, 0, 21);
            y.run(9);
            places("held at the gap", y, 20, 30);
            due("on the way still", 1, y.at(0, 7));
        });
        edge("Promise 8: the least gap 1 and the most 30", () -> {
            for (int gap : new int[] {1, 30}) {
                CraneTurns x = made(2, gap, 20, 1);
                x.crane(1, 100, 0, 200);
                x.broken(1, true);
                goTo(x, 0, 100);
                x.run(9);
                places("gap " + gap, x, 100 - gap, 100);
            }
        });
    }

    private static void gapBelow() {
        edge("Promise 8: not nearer than the gap to its lower neighbour", () -> {
            CraneTurns x = two(30, 46);
            x.broken(0, true);
            goTo(x, 1, 0);
            x.run(1);
            places("room for all", x, 30, 41);
            x.run(1);
            places("room for 1", x, 30, 40);
            due("1 place is work", 2, x.at(1, 3));
            x.run(1);
            places("no room", x, 30, 40);
            due("blocked", 1, x.at(1, 4));
        });
        edge("Promise 8: a goal at the gap above a neighbour is reached, 1 below it is not", () -> {
            CraneTurns x = two(30, 45);
            x.broken(0, true);
            goTo(x, 1, 40);
            x.run(1);
            due("lifting", 2, x.at(1, 7));
            CraneTurns y = two(30, 45);
            y.broken(0, true);
            goTo(y, 1, 39);
            y.run(9);
            places("held at the gap", y, 30, 40);
            due("on the way still", 1, y.at(1, 7));
        });
    }

    private static void neighboursAsTheyStandThen() {
        edge("Promise 8: as that stands then: the upper neighbour has not gone yet", () -> {
            CraneTurns x = two(0, 10);
            goTo(x, 0, 50);
            goTo(x, 1, 100);
            x.run(1);
            places("the lower one waits", x, 0, 15);
            due("blocked", 1, x.at(0, 4));
            x.run(1);
            places("both go", x, 5, 20);
            due("blocked no more", 1, x.at(0, 4));
        });
        edge("Promise 8: as that stands then: the lower neighbour has gone already", () -> {
            CraneTurns x = two(50, 60);
            goTo(x, 0, 10);
            goTo(x, 1, 30);
            x.run(1);
            places("both go", x, 45, 55);
            due("not blocked", 0, x.at(1, 4));
        });
        edge("Promise 8: no passing: two with goals beyond each other stay for ever", () -> {
            CraneTurns x = two(40, 60);
            goTo(x, 0, 100);
            goTo(x, 1, 0);
            x.run(500);
            places("at the gap", x, 45, 55);
            due("blocked", 499, x.at(0, 4));
            due("blocked", 499, x.at(1, 4));
            due("near", 10, x.near());
        });
    }

    private static void kindsOfSeconds() {
        edge("Promise 8: lifting and setting are work, though it does not change its place", () -> {
            CraneTurns x = one(3, 0, 0, 0);
            x.run(7);
            due("work", 6, x.at(0, 3));
            due("blocked", 0, x.at(0, 4));
            due("idle", 1, x.at(0, 5));
        });
        edge("Promise 8: the second in which it comes there is work", () -> {
            CraneTurns x = one(1, 5, 10, 0);
            x.run(4);
            due("work", 4, x.at(0, 3));
            due("blocked", 0, x.at(0, 4));
            due("done", 4, x.state(0, 2));
        });
        edge("Promise 8: shares of seconds sum to the clock, for each crane", () -> {
            CraneTurns x = busy();
            x.run(20);
            x.broken(2, false);
            x.broken(0, true);
            int clock = x.run(70);
            for (int c = 0; c < 3; c++) {
                due("the sum", clock, x.at(c, 3) + x.at(c, 4) + x.at(c, 5) + x.at(c, 6));
            }
        });
    }

    private static void givesWayUp() {
        edge("Promise 8: gives way when a goal is above its own place less the gap", () -> {
            CraneTurns at = two(0, 30);
            goTo(at, 0, 20);
            at.run(1);
            places("a goal at it", at, 5, 30);
            CraneTurns above = two(0, 30);
            goTo(above, 0, 21);
            above.run(1);
            places("a goal 1 above it", above, 5, 31);
            above.run(1);
            places("no farther", above, 10, 31);
        });
        edge("Promise 8: goes up toward goal + gap by the speed at most", () -> {
            int[][] cases = {{24, 34, 34}, {25, 35, 35}, {26, 35, 36}};
            for (int[] c : cases) {
                CraneTurns x = two(0, 30);
                goTo(x, 0, c[0]);
                x.run(1);
                places("for " + c[0], x, 5, c[1]);
                x.run(1);
                places("for " + c[0], x, 10, c[2]);
            }
        });
        edge("Promise 8: gives way up within its reach", () -> {
            for (int room = 0; room <= 1; room++) {
                CraneTurns x = two(0, 30);
                x.crane(1, 30, 0, 30 + room);
                goTo(x, 0, 100);
                x.run(3);
                places("reach with room " + room, x, 15, 30 + room);
                due("idle in each case", 3, x.at(1, 5));
            }
        });
        edge("Promise 8: gives way up to the end of the track, not beyond", () -> {
            CraneTurns x = two(180, 198);
            goTo(x, 0, 195);
            x.run(5);
            places("the end", x, 190, 200);
            due("blocked", 3, x.at(0, 4));
        });
        edge("Promise 8: gives way up not nearer than the gap to its upper neighbour", () -> {
            for (int room = 0; room <= 1; room++) {
                CraneTurns x = made(3, 10, 5, 1);
                x.crane(2, 40 + room, 0, 200);
                x.crane(1, 30, 0, 200);
                goTo(x, 0, 100);
                x.run(3);
                places("room " + room, x, 15, 30 + room, 40 + room);
                due("idle in each case", 3, x.at(1, 5));
            }
        });
    }

    /** The upper neighbour's goal is seen from its second second on, as it goes behind the lower. */
    private static void givesWayDown() {
        edge("Promise 8: gives way when a goal is below its own place and the gap", () -> {
            CraneTurns at = two(30, 60);
            goTo(at, 1, 40);
            at.run(2);
            places("a goal at it", at, 30, 50);
            CraneTurns below = two(30, 60);
            goTo(below, 1, 39);
            below.run(1);
            places("not known yet", below, 30, 55);
            below.run(1);
            places("a goal 1 below it", below, 29, 50);
            below.run(1);
            places("no farther", below, 29, 45);
        });
        edge("Promise 8: goes down toward goal - gap by the speed at most", () -> {
            int[][] cases = {{36, 26, 26}, {35, 25, 25}, {34, 25, 24}};
            for (int[] c : cases) {
                CraneTurns x = two(30, 60);
                goTo(x, 1, c[0]);
                x.run(2);
                places("for " + c[0], x, c[1], 50);
                x.run(1);
                places("for " + c[0], x, c[2], 45);
            }
        });
        edge("Promise 8: gives way down within its reach", () -> {
            for (int room = 0; room <= 1; room++) {
                CraneTurns x = two(30, 60);
                x.crane(0, 30, 30 - room, 200);
                goTo(x, 1, 0);
                x.run(4);
                places("reach with room " + room, x, 30 - room, 40);
                due("idle in each case", 4, x.at(0, 5));
            }
        });
        edge("Promise 8: gives way down to the end of the track, not beyond", () -> {
            CraneTurns x = two(2, 20);
            goTo(x, 1, 5);
            x.run(5);
            places("the end", x, 0, 10);
            due("blocked", 3, x.at(1, 4));
        });
        edge("Promise 8: gives way down not nearer than the gap to its lower neighbour", () -> {
            for (int room = 0; room <= 1; room++) {
                CraneTurns x = made(3, 10, 5, 1);
                x.crane(2, 80, 0, 200);
                x.crane(1, 50, 0, 200);
                x.crane(0, 40 - room, 0, 200);
                goTo(x, 2, 0);
                x.run(3);
                places("room " + room, x, 40 - room, 50 - room, 65);
                due("idle in each case", 3, x.at(1, 5));
            }
        });
    }

    private static void givesWayOrder() {
        edge("Promise 8: the lower neighbour first, else the upper one", () -> {
            int[][] cases = {{41, 51}, {40, 45}};
            for (int[] c : cases) {
                CraneTurns x = made(3, 10, 5, 1);
                x.crane(2, 90, 0, 200);
                x.crane(1, 50, 0, 200);
                goTo(x, 2, 20);
                x.run(1);
                goTo(x, 0, c[0]);
                x.run(1);
                places("the lower goal is " + c[0], x, 5, c[1], 80);
            }
        });
        edge("Promise 8: the first crane has no lower neighbour, the last no upper one", () -> {
            CraneTurns x = made(3, 10, 5, 1);
            x.crane(2, 100, 0, 200);
            x.crane(1, 50, 0, 200);
            x.crane(0, 20, 0, 200);
            goTo(x, 1, 60);
            x.run(2);
            places("nothing in the way", x, 20, 60, 100);
        });
        edge("Promise 8: to a neighbour with a goal alone, not to one that gives way", () -> {
            CraneTurns x = made(3, 10, 5, 1);
            goTo(x, 0, 100);
            x.run(3);
            places("no crane goes", x, 0, 10, 20);
            due("idle", 3, x.at(1, 5));
            due("idle", 3, x.at(2, 5));
        });
        edge("Promise 8: one crane alone gives way to none", () -> {
            CraneTurns x = made(1, 30, 20, 1);
            x.run(5);
            places("it stays", x, 0);
            due("idle", 5, x.at(0, 5));
        });
    }

    private static void noWayInABusySecond() {
        edge("Promise 8: still without a job: no way in the second in which it sets a job", () -> {
            CraneTurns x = two(0, 20);
            goTo(x, 0, 30);
            goTo(x, 1, 20);
            x.run(2);
            due("done", 2, x.state(1, 2));
            places("stays in that second", x, 10, 20);
            due("work", 2, x.at(1, 3));
            x.run(1);
            places("gives way in the next", x, 10, 25);
            due("idle", 1, x.at(1, 5));
        });
        edge("Promise 8: still without a job: no way in the second in which it takes one", () -> {
            CraneTurns x = two(0, 20);
            goTo(x, 0, 30);
            x.give(x.job(25, 25, 1), 1);
            x.run(1);
            places("gives way while it waits", x, 5, 25);
            x.run(1);
            places("lifts then", x, 10, 25);
            due("setting", 4, x.at(1, 7));
        });
        edge("Promise 8: one with a job at hand gives no way", () -> {
            CraneTurns x = made(2, 10, 5, 9);
            x.crane(1, 20, 0, 200);
            goTo(x, 1, 20);
            goTo(x, 0, 30);
            x.run(18);
            places("held till it is done", x, 10, 20);
            due("blocked", 16, x.at(0, 4));
            x.run(2);
            places("then it goes", x, 15, 30);
        });
    }

    // Promise 9

    private static void atIndex() {
        edge("Promise 9: index: no such crane", () -> {
            for (int what = 0; what < 8; what++) {
                int w = what;
                limits(INDEX, Edges::busy, 0, 2, (x, v) -> x.at(v, w));
            }
            limits(INDEX, () -> made(2, 1, 1, 1), 0, 1, (x, v) -> x.at(v, 0));
            limits(INDEX, () -> made(1, 1, 1, 1), 0, 0, (x, v) -> x.at(v, 0));
        });
        edge("Promise 9: index: no such what", () -> {
            for (int c = 0; c < 3; c++) {
                int crane = c;
                limits(INDEX, Edges::busy, 0, 7, (x, v) -> x.at(crane, v));
            }
        });
        edge("Promise 9: index: neither", () -> {
            refuses(INDEX, Edges::busy, x -> x.at(3, 8));
            refuses(INDEX, Edges::busy, x -> x.at(-1, -1));
        });
    }

    private static void atValues() {
        edge("Promise 9: 0 its place, from 0 to 200", () ->
                places("the ends", two(0, 200), 0, 200));
        edge("Promise 9: 1 its job at hand (-1): the first job and the last", () -> {
            CraneTurns x = made(1, 1, 5, 1);
            for (int j = 0; j < 8; j++) {
                x.job(0, 0, 0);
            }
            due("none", -1, x.at(0, 1));
            x.give(7, 0);
            x.give(0, 0);
            due("given is not at hand", -1, x.at(0, 1));
            x.run(1);
            due("the last", 7, x.at(0, 1));
            x.run(1);
            due("done is not at hand", -1, x.at(0, 1));
            x.run(1);
            due("the first", 0, x.at(0, 1));
        });
        edge("Promise 9: 2 how many more it was given: without the one at hand", () -> {
            CraneTurns x = one(1, 0, 0, 0);
            due("one", 1, x.at(0, 2));
            x.run(1);
            due("none more", 0, x.at(0, 2));
        });
        edge("Promise 9: 3 to 6 seconds: none at first, one of one kind in each second", () -> {
            CraneTurns x = two(0, 10);
            goTo(x, 0, 5);
            x.run(1);
            due("blocked", 1, x.at(0, 4));
            due("no work", 0, x.at(0, 3));
            due("not idle", 0, x.at(0, 5));
            due("not broken", 0, x.at(0, 6));
            due("the other is idle", 1, x.at(1, 5));
            x.broken(1, true);
            x.run(1);
            due("work", 1, x.at(0, 3));
            due("the other is broken", 1, x.at(1, 6));
            due("and idle no more", 1, x.at(1, 5));
        });
        edge("Promise 9: 7 what it does: 0 to 4, each at its first second and its last", () -> {
            CraneTurns x = one(2, 6, 0, 0);
            int[] does = {1, 2, 2, 3, 3, 4, 4, 0, 0};
            due("nothing yet", 0, x.at(0, 7));
            for (int s = 0; s < does.length; s++) {
                x.run(1);
                due("behind second " + (s + 1), does[s], x.at(0, 7));
            }
        });
    }

    // Promise 10

    private static void stateIndex() {
        edge("Promise 10: index: no such job", () -> {
            for (int what = 0; what < 3; what++) {
                int w = what;
                limits(INDEX, Edges::busy, 0, 4, (x, v) -> x.state(v, w));
            }
            refuses(INDEX, () -> made(1, 1, 1, 1), x -> x.state(0, 0));
            limits(INDEX, SecondsEdgesTest::fullOfJobs, 0, 7, (x, v) -> x.state(v, 0));
        });
        edge("Promise 10: index: no such what", () -> {
            for (int j = 0; j < 5; j++) {
                int job = j;
                limits(INDEX, Edges::busy, 0, 2, (x, v) -> x.state(job, v));
            }
        });
        edge("Promise 10: index: neither", () -> {
            refuses(INDEX, Edges::busy, x -> x.state(5, 3));
            refuses(INDEX, Edges::busy, x -> x.state(-1, -1));
        });
    }

    private static CraneTurns fullOfJobs() {
        CraneTurns x = made(1, 1, 1, 1);
        for (int j = 0; j < 8; j++) {
            x.job(0, 0, 0);
        }
        return x;
    }

    private static void stateValues() {
        edge("Promise 10: 0 free, 1 given, 2 at hand, 3 done: each from its first second on", () -> {
            CraneTurns x = made(1, 1, 5, 1);
            x.job(0, 0, 1);
            due("free", 0, x.state(0, 0));
            x.give(0, 0);
            due("given", 1, x.state(0, 0));
            x.run(1);
            due("given till it is ready", 1, x.state(0, 0));
            x.run(1);
            due("at hand", 2, x.state(0, 0));
            x.run(1);
            due("done", 3, x.state(0, 0));
            x.run(1000);
            due("done for ever", 3, x.state(0, 0));
        });
        edge("Promise 10: 1 its crane (-1: free): the first crane and the last", () -> {
            CraneTurns x = busy();
            due("free", -1, x.state(4, 1));
            x.give(x.job(60, 60, 0), 2);
            due("given to the last", 2, x.state(5, 1));
            due("at hand of the first", 0, x.state(1, 1));
            due("done by the first", 0, x.state(0, 1));
        });
        edge("Promise 10: 2 the second in which it was done (-1): at the clock and 1", () -> {
            CraneTurns x = one(1, 0, 0, 0);
            due("given", -1, x.state(0, 2));
            x.run(1);
            due("at hand", -1, x.state(0, 2));
            x.run(1);
            due("done in the least time", 2, x.state(0, 2));
            x.run(9);
            due("it stays so", 2, x.state(0, 2));
        });
        edge("Promise 10: 2 the second in which it was done: the last of all, 100,000", () -> {
            CraneTurns x = clockAt(99_998);
            goTo(x, 0, 0);
            x.run(2);
            due("done", 100_000, x.state(0, 2));
        });
    }

    // Promise 11

    private static void near() {
        edge("Promise 11: 200 at first: no track, a track, no second", () -> {
            due("no track", 200, new CraneTurns().near());
            CraneTurns x = made(3, 1, 1, 1);
            due("a track", 200, x.near());
            x.run(0);
            due("no second", 200, x.near());
        });
        edge("Promise 11: the least distance of two neighbours, behind the first second", () -> {
            CraneTurns x = made(3, 1, 1, 1);
            x.run(1);
            due("the least gap", 1, x.near());
            CraneTurns y = made(3, 30, 1, 1);
            y.run(1);
            due("the most gap", 30, y.near());
        });
        edge("Promise 11: the most distance: 200 and 199", () -> {
            CraneTurns x = two(0, 200);
            x.run(1);
            due("200", 200, x.near());
            CraneTurns y = two(1, 200);
            y.run(1);
            due("199", 199, y.near());
        });
        edge("Promise 11: each two neighbours, the lower and the upper", () -> {
            CraneTurns x = made(3, 10, 5, 1);
            x.crane(2, 100, 0, 200);
            x.crane(1, 20, 0, 200);
            x.run(1);
            due("the lower two", 20, x.near());
            CraneTurns y = made(3, 10, 5, 1);
            y.crane(2, 100, 0, 200);
            y.crane(1, 85, 0, 200);
            y.run(1);
            due("the upper two", 15, y.near());
        });
        edge("Promise 11: one crane has no neighbour", () -> {
            CraneTurns x = made(1, 1, 1, 1);
            x.run(1000);
            due("near", 200, x.near());
        });
        edge("Promise 11: so far: it never grows", () -> {
            CraneTurns x = two(0, 60);
            goTo(x, 0, 40);
            x.run(8);
            due("the nearest", 20, x.near());
            goTo(x, 0, 0);
            x.run(20);
            places("far again", x, 0, 60);
            due("the nearest so far", 20, x.near());
        });
        edge("Promise 11: behind all cranes, not amid a second", () -> {
            CraneTurns x = made(2, 10, 20, 1);
            x.crane(1, 30, 0, 200);
            goTo(x, 0, 60);
            x.run(1);
            places("each went 20", x, 20, 50);
            due("30, though 10 amid the second", 30, x.near());
        });
        edge("Promise 11: places that are set up are no seconds", () -> {
            CraneTurns x = two(0, 10);
            x.crane(1, 90, 0, 200);
            x.run(1);
            due("near", 90, x.near());
        });
        edge("Promise 11: a breakdown's seconds count", () -> {
            CraneTurns x = two(5, 47);
            x.broken(0, true);
            x.broken(1, true);
            x.run(1);
            due("near", 42, x.near());
        });
        edge("Promise 11: never nearer than the gap", () -> {
            CraneTurns x = two(40, 60);
            goTo(x, 0, 58);
            goTo(x, 1, 52);
            x.run(1000);
            due("near", 10, x.near());
        });
    }

    // What it is

    private static void allCallsOfAnObject() {
        edge("What it is: an object is used for at most 512 calls: the 512th answers", () -> {
            CraneTurns x = made(3, 10, 5, 1);
            for (int j = 0; j < 4; j++) {
                x.job(0, 0, 5000);
            }
            for (int call = 6; call < 512; call++) {
                due("plan", -1, x.plan(10));
            }
            due("the 512th", 1, x.run(1));
        });
    }
}
