/** Cranes on one track by seconds; ../shared/DOC.md says what each call promises. */
public final class CraneTurns {
    private static final int MOST_CRANES = 3;
    private static final int MOST_GAP = 30;
    private static final int MOST_SPEED = 20;
    private static final int MOST_LIFT = 30;
    private static final int LAST_PLACE = 200;
    private static final int MOST_JOBS = 8;
    private static final int LAST_READY = 5_000;
    private static final int MOST_RUN = 1_000;
    private static final int LAST_CLOCK = 100_000;
    private static final int MOST_PLAN = 300;
    private static final int MOST_PLANNED = 4;

    private static final int NONE = -1;

    // What a crane does, in the numbers that at(crane, 7) answers.
    private static final int NOTHING = 0;
    private static final int TO_JOB = 1;
    private static final int LIFTING = 2;
    private static final int WITH_JOB = 3;
    private static final int SETTING = 4;

    // How a job stands, in the numbers that state(job, 0) answers.
    private static final int FREE = 0;
    private static final int GIVEN = 1;
    private static final int AT_HAND = 2;
    private static final int DONE = 3;

    // The kinds of seconds that each crane's seconds are shared among.
    private static final int WORK = 0;
    private static final int BLOCKED = 1;
    private static final int IDLE = 2;
    private static final int BROKEN = 3;
    private static final int KINDS = 4;

    private final Yard yard;
    private final Planner planner;

    public CraneTurns() {
        yard = new Yard();
        planner = new Planner();
    }

    public void track(int cranes, int gap, int speed, int lift)
            throws IllegalStateException, IllegalArgumentException {
        if (yard.hasTrack()) {
            throw new IllegalStateException("the track is made");
        }
        if (!within(cranes, 1, MOST_CRANES) || !within(gap, 1, MOST_GAP)
                || !within(speed, 1, MOST_SPEED) || !within(lift, 1, MOST_LIFT)) {
            throw new IllegalArgumentException("cranes, gap, speed or lift is out of range");
        }
        yard.lay(cranes, gap, speed, lift);
    }

    public void crane(int crane, int place, int low, int high)
            throws IndexOutOfBoundsException, IllegalStateException, IllegalArgumentException,
            UnsupportedOperationException {
        needCrane(crane);
        if (yard.clock > 0 || yard.givenEver) {
            throw new IllegalStateException("a second has gone or a job was given");
        }
        if (low < 0 || place < low || high < place || high > LAST_PLACE) {
            throw new IllegalArgumentException("low, place and high are not in order on the track");
        }
        if (!yard.hasRoom(crane, place)) {
            throw new UnsupportedOperationException("too near to a neighbour, or passed");
        }
        yard.cranes[crane].stand(place, low, high);
    }

    public int job(int from, int to, int ready)
            throws IllegalStateException, IllegalArgumentException, UnsupportedOperationException {
        needTrack();
        if (!within(from, 0, LAST_PLACE) || !within(to, 0, LAST_PLACE)
                || !within(ready, 0, LAST_READY)) {
            throw new IllegalArgumentException("a place or the ready second is out of range");
        }
        if (yard.jobCount >= MOST_JOBS) {
            throw new UnsupportedOperationException("no room for one more job");
        }
        return yard.addJob(from, to, ready);
    }

    public void give(int job, int crane)
            throws IndexOutOfBoundsException, IllegalStateException, UnsupportedOperationException {
        needJob(job);
        needCrane(crane);
        if (yard.jobs[job].stands != FREE) {
            throw new IllegalStateException("the job is not free");
        }
        if (!yard.cranes[crane].reaches(yard.jobs[job])) {
            throw new UnsupportedOperationException("the job is out of the crane's reach");
        }
        yard.hand(job, crane);
    }

    public void take(int job) throws IndexOutOfBoundsException, IllegalStateException {
        needJob(job);
        if (yard.jobs[job].stands != GIVEN) {
            throw new IllegalStateException("the job is not given, or is at hand");
        }
        yard.free(job);
    }

    public void broken(int crane, boolean on)
            throws IndexOutOfBoundsException, IllegalStateException {
        needCrane(crane);
        if (yard.cranes[crane].isBroken == on) {
            throw new IllegalStateException("the crane is so");
        }
        yard.cranes[crane].isBroken = on;
    }

    public int run(int seconds) throws IllegalStateException, IllegalArgumentException {
        needTrack();
        if (!within(seconds, 0, MOST_RUN) || yard.clock + seconds > LAST_CLOCK) {
            throw new IllegalArgumentException("too few or too many seconds");
        }
        for (int i = 0; i < seconds; i++) {
            yard.passSecond();
        }
        return yard.clock;
    }

    public int at(int crane, int what) throws IndexOutOfBoundsException {
        needCrane(crane);
        Crane asked = yard.cranes[crane];
        switch (what) {
            case 0:
                return asked.place;
            case 1:
                return asked.atHand;
            case 2:
                return asked.waitingCount;
            case 3:
                return asked.seconds[WORK];
            case 4:
                return asked.seconds[BLOCKED];
            case 5:
                return asked.seconds[IDLE];
            case 6:
                return asked.seconds[BROKEN];
            case 7:
                return asked.does;
            default:
                throw new IndexOutOfBoundsException("no such what of a crane");
        }
    }

    public int state(int job, int what) throws IndexOutOfBoundsException {
        needJob(job);
        Job asked = yard.jobs[job];
        switch (what) {
            case 0:
                return asked.stands;
            case 1:
                return asked.owner;
            case 2:
                return asked.doneAt;
            default:
                throw new IndexOutOfBoundsException("no such what of a job");
        }
    }

    public int near() {
        return yard.nearest;
    }

    public int plan(int seconds)
            throws IllegalStateException, IllegalArgumentException, UnsupportedOperationException {
        needTrack();
        if (!within(seconds, 1, MOST_PLAN)) {
            throw new IllegalArgumentException("too few or too many seconds");
        }
        if (yard.countFree() > MOST_PLANNED) {
            throw new UnsupportedOperationException("more than four free jobs");
        }
        return planner.search(yard, seconds);
    }

    public int planned(int k) throws IndexOutOfBoundsException {
        if (k < 0) {
            throw new IndexOutOfBoundsException("k is below 0");
        }
        return planner.bestGiving(k);
    }

    private static boolean within(int value, int least, int most) {
        return value >= least && value <= most;
    }

    private void needTrack() {
        if (!yard.hasTrack()) {
            throw new IllegalStateException("there is no track");
        }
    }

    private void needCrane(int crane) {
        if (!within(crane, 0, yard.craneCount - 1)) {
            throw new IndexOutOfBoundsException("no such crane");
        }
    }

    private void needJob(int job) {
        if (!within(job, 0, yard.jobCount - 1)) {
            throw new IndexOutOfBoundsException("no such job");
        }
    }

    private static final class Job {
        int from;
        int to;
        int ready;
        int stands = FREE;
        int owner = NONE;
        int doneAt = NONE;

        void copyOf(Job other) {
            from = other.from;
            to = other.to;
            ready = other.ready;
            stands = other.stands;
            owner = other.owner;
            doneAt = other.doneAt;
        }
    }

    private static final class Crane {
        int place;
        int low;
        int high;
        boolean isBroken;
        int atHand = NONE;
        int does = NOTHING;
        int goal;
        int toGo;
        final int[] seconds = new int[KINDS];
        final int[] waiting = new int[MOST_JOBS];
        int waitingCount;

        void stand(int newPlace, int newLow, int newHigh) {
            place = newPlace;
            low = newLow;
            high = newHigh;
        }

        boolean reaches(Job job) {
            return within(job.from, low, high) && within(job.to, low, high);
        }

        boolean hasGoal() {
            return does == TO_JOB || does == WITH_JOB;
        }

        void queue(int job) {
            if (waitingCount < MOST_JOBS) {
                waiting[waitingCount] = job;
                waitingCount++;
            }
        }

        void unqueue(int job) {
            int kept = 0;
            for (int i = 0; i < waitingCount; i++) {
                if (waiting[i] != job) {
                    waiting[kept] = waiting[i];
                    kept++;
                }
            }
            waitingCount = kept;
        }

        void copyOf(Crane other) {
            stand(other.place, other.low, other.high);
            isBroken = other.isBroken;
            atHand = other.atHand;
            does = other.does;
            goal = other.goal;
            toGo = other.toGo;
            waitingCount = other.waitingCount;
            System.arraycopy(other.seconds, 0, seconds, 0, KINDS);
            System.arraycopy(other.waiting, 0, waiting, 0, MOST_JOBS);
        }
    }

    /** The track with its cranes and jobs: the real one, or the copy that plans are tried on. */
    private static final class Yard {
        int craneCount;
        int gap;
        int speed;
        int lift;
        int clock;
        int nearest = LAST_PLACE;
        int jobCount;
        int openJobs;
        boolean givenEver;
        final Crane[] cranes = new Crane[MOST_CRANES];
        final Job[] jobs = new Job[MOST_JOBS];

        Yard() {
            for (int c = 0; c < MOST_CRANES; c++) {
                cranes[c] = new Crane();
            }
            for (int j = 0; j < MOST_JOBS; j++) {
                jobs[j] = new Job();
            }
        }

        boolean hasTrack() {
            return craneCount > 0;
        }

        void lay(int newCranes, int newGap, int newSpeed, int newLift) {
            craneCount = newCranes;
            gap = newGap;
            speed = newSpeed;
            lift = newLift;
            for (int c = 0; c < craneCount; c++) {
                cranes[c].stand(c * gap, 0, LAST_PLACE);
            }
        }

        int addJob(int from, int to, int ready) {
            int number = jobCount;
            jobs[number].from = from;
            jobs[number].to = to;
            jobs[number].ready = ready;
            jobCount++;
            openJobs++;
            return number;
        }

        void hand(int job, int crane) {
            jobs[job].stands = GIVEN;
            jobs[job].owner = crane;
            cranes[crane].queue(job);
            givenEver = true;
        }

        void free(int job) {
            int owner = jobs[job].owner;
            if (within(owner, 0, craneCount - 1)) {
                cranes[owner].unqueue(job);
            }
            jobs[job].stands = FREE;
            jobs[job].owner = NONE;
        }

        int countFree() {
            int count = 0;
            for (int j = 0; j < jobCount; j++) {
                if (jobs[j].stands == FREE) {
                    count++;
                }
            }
            return count;
        }

        /** The lowest place that the gap leaves a crane, by its lower neighbour. */
        private int floorOf(int c) {
            return c > 0 ? cranes[c - 1].place + gap : 0;
        }

        /** The highest place that the gap leaves a crane, by its upper neighbour. */
        private int ceilingOf(int c) {
            return c + 1 < craneCount ? cranes[c + 1].place - gap : LAST_PLACE;
        }

        boolean hasRoom(int c, int place) {
            return within(place, floorOf(c), ceilingOf(c));
        }

        void passSecond() {
            for (int c = 0; c < craneCount; c++) {
                cranes[c].seconds[passSecondOf(c)]++;
            }
            clock++;
            for (int c = 1; c < craneCount; c++) {
                nearest = Math.min(nearest, cranes[c].place - cranes[c - 1].place);
            }
        }

        /** Answers which kind of second it was for the crane. */
        private int passSecondOf(int c) {
            Crane crane = cranes[c];
            if (crane.isBroken) {
                return BROKEN;
            }
            if (crane.atHand == NONE) {
                takeFirst(crane);
            }
            if (!within(crane.atHand, 0, jobCount - 1)) {
                moveToward(c, placeOutOfTheWay(c));
                return IDLE;
            }
            Job job = jobs[crane.atHand];
            if (crane.does == LIFTING) {
                liftOn(crane, job);
                return WORK;
            }
            if (crane.does == SETTING) {
                setOn(crane, job);
                return WORK;
            }
            int before = crane.place;
            moveToward(c, crane.goal);
            handleIfThere(crane);
            return crane.place == before ? BLOCKED : WORK;
        }

        /** Only the first one: a later job never overtakes one that is not ready. */
        private void takeFirst(Crane crane) {
            if (crane.waitingCount == 0) {
                return;
            }
            int first = crane.waiting[0];
            if (!within(first, 0, jobCount - 1) || clock < jobs[first].ready) {
                return;
            }
            crane.unqueue(first);
            crane.atHand = first;
            jobs[first].stands = AT_HAND;
            crane.goal = jobs[first].from;
            crane.does = TO_JOB;
            handleIfThere(crane);
        }

        private void handleIfThere(Crane crane) {
            if (crane.place == crane.goal) {
                crane.does = crane.does == TO_JOB ? LIFTING : SETTING;
                crane.toGo = lift;
            }
        }

        private void liftOn(Crane crane, Job job) {
            crane.toGo--;
            if (crane.toGo == 0) {
                crane.goal = job.to;
                crane.does = WITH_JOB;
                handleIfThere(crane);
            }
        }

        private void setOn(Crane crane, Job job) {
            crane.toGo--;
            if (crane.toGo == 0) {
                job.stands = DONE;
                job.doneAt = clock + 1;
                openJobs--;
                crane.atHand = NONE;
                crane.does = NOTHING;
            }
        }

        /** Where a crane without a job goes to for a neighbour: its own place if it may stay. */
        private int placeOutOfTheWay(int c) {
            Crane crane = cranes[c];
            if (c > 0 && cranes[c - 1].hasGoal() && cranes[c - 1].goal > crane.place - gap) {
                return Math.min(cranes[c - 1].goal + gap, crane.high);
            }
            if (c + 1 < craneCount && cranes[c + 1].hasGoal()
                    && cranes[c + 1].goal < crane.place + gap) {
                return Math.max(cranes[c + 1].goal - gap, crane.low);
            }
            return crane.place;
        }

        private void moveToward(int c, int aim) {
            Crane crane = cranes[c];
            if (aim > crane.place) {
                crane.place = Math.min(Math.min(aim, crane.place + speed), ceilingOf(c));
            } else if (aim < crane.place) {
                crane.place = Math.max(Math.max(aim, crane.place - speed), floorOf(c));
            }
        }

        void copyOf(Yard other) {
            craneCount = other.craneCount;
            gap = other.gap;
            speed = other.speed;
            lift = other.lift;
            clock = other.clock;
            nearest = other.nearest;
            jobCount = other.jobCount;
            openJobs = other.openJobs;
            givenEver = other.givenEver;
            for (int c = 0; c < craneCount; c++) {
                cranes[c].copyOf(other.cranes[c]);
            }
            for (int j = 0; j < jobCount; j++) {
                jobs[j].copyOf(other.jobs[j]);
            }
        }
    }

    /** Tries all ways to give the free jobs, and keeps the first of those that end soonest. */
    private static final class Planner {
        private final Yard trial = new Yard();
        private final boolean[] inWay = new boolean[MOST_JOBS];
        private final int[] wayJobs = new int[MOST_PLANNED];
        private final int[] wayCranes = new int[MOST_PLANNED];
        private final int[] best = new int[MOST_PLANNED];
        private int givings;
        private int bestCount;
        private int bestSeconds;
        private int limit;

        int search(Yard yard, int seconds) {
            givings = Math.min(yard.countFree(), MOST_PLANNED);
            bestCount = 0;
            bestSeconds = NONE;
            limit = seconds;
            extendWay(yard, 0);
            return bestSeconds;
        }

        int bestGiving(int k) {
            return within(k, 0, bestCount - 1) ? best[k] : NONE;
        }

        private void extendWay(Yard yard, int depth) {
            if (depth >= givings) {
                tryWay(yard);
                return;
            }
            for (int j = 0; j < yard.jobCount; j++) {
                if (yard.jobs[j].stands != FREE || inWay[j]) {
                    continue;
                }
                inWay[j] = true;
                for (int c = 0; c < yard.craneCount; c++) {
                    if (yard.cranes[c].reaches(yard.jobs[j]) && !isTriedAlready(depth, j, c)) {
                        wayJobs[depth] = j;
                        wayCranes[depth] = c;
                        extendWay(yard, depth + 1);
                    }
                }
                inWay[j] = false;
            }
        }

        /**
         * Two givings in a row to two cranes do the same in either order, and the order with the
         * lower job ahead is the earlier way: the later one can't be the first of the least.
         */
        private boolean isTriedAlready(int depth, int job, int crane) {
            return depth > 0 && wayCranes[depth - 1] != crane && wayJobs[depth - 1] > job;
        }

        private void tryWay(Yard yard) {
            trial.copyOf(yard);
            for (int i = 0; i < givings; i++) {
                trial.hand(wayJobs[i], wayCranes[i]);
            }
            int seconds = 0;
            while (trial.openJobs > 0 && seconds < limit) {
                trial.passSecond();
                seconds++;
            }
            if (trial.openJobs == 0 && seconds <= limit) {
                keepWay(seconds);
            }
        }

        private void keepWay(int seconds) {
            bestSeconds = seconds;
            // A later way has to be better than this one, so it gets a second less.
            limit = seconds - 1;
            bestCount = givings;
            for (int i = 0; i < givings; i++) {
                best[i] = 10 * wayJobs[i] + wayCranes[i];
            }
        }
    }
}
