/** Slipstream sparrows racing in pairs round a barn; ../shared/DOC.md says what it promises. */
public final class SparrowRace {
    private static final int MOST_SPARROWS = 8;
    private static final int COURSE = 400;
    private static final int QUARTER = 100;
    private static final int STRAIGHT = 70;
    private static final int CORNERS = 4;
    private static final int LEAST_PACE = 10;
    private static final int MOST_PACE = 40;
    private static final int LEAST_LIMIT = 8;
    private static final int MOST_LIMIT = 40;
    private static final int MOST_LAPS = 9;
    private static final int MOST_SECONDS = 200;
    private static final int FORESIGHT = 2000;
    private static final int PACE_TRIAL = 50;
    private static final int MOST_STRENGTH = 999;
    private static final int REST_SECONDS = 12;
    private static final int SLOTS = 2;
    private static final int MOST_SAVED = 6;
    private static final int NONE = -1;
    private static final int WAITS = 0;
    private static final int FLIES = 1;
    private static final int RESTS = 2;
    private static final int HAS_ARRIVED = 3;
    private static final int OUTSIDE = 1;

    private final Race now = new Race();
    // What would be is tried out on this row, so that no call has to make one.
    private final Race trial = new Race();
    private final SavedRaces saved = new SavedRaces();
    private final Slots slots = new Slots();
    private final OrderText text = new OrderText();
    private final OrderReader reader = new OrderReader();

    public SparrowRace() {
    }

    // ---- sparrows

    public int enter(int pace, int strength, int lane)
            throws IllegalArgumentException, IllegalStateException {
        if (!isPace(pace) || strength < 100 || strength > MOST_STRENGTH || lane < 0 || lane > OUTSIDE) {
            throw new IllegalArgumentException("pace, strength or lane is out of range");
        }
        if (now.count >= MOST_SPARROWS || now.racing) {
            throw new IllegalStateException("no sparrow can come to the start");
        }
        saved.save(now);
        return now.addSparrow(pace, strength, lane);
    }

    public int setPace(int bird, int pace) throws IndexOutOfBoundsException, IllegalArgumentException {
        Sparrow sparrow = known(bird);
        checkPace(pace);
        saved.save(now);
        int before = sparrow.pace;
        sparrow.pace = pace;
        return before;
    }

    public boolean callIn(int bird) throws IndexOutOfBoundsException, IllegalStateException {
        Sparrow sparrow = known(bird);
        if (sparrow.state == HAS_ARRIVED) {
            throw new IllegalStateException("the sparrow has arrived");
        }
        saved.save(now);
        sparrow.calledIn = !sparrow.calledIn;
        return sparrow.calledIn;
    }

    public int pair(int bird, int other) throws IndexOutOfBoundsException, IllegalArgumentException {
        Sparrow one = known(bird);
        Sparrow another = known(other);
        if (bird == other) {
            throw new IllegalArgumentException("a sparrow is no pair with itself");
        }
        saved.save(now);
        now.makePair(one, another);
        return now.countPairs();
    }

    // ---- the course, time

    public int setLimit(int corner, int limit) throws IndexOutOfBoundsException, IllegalArgumentException {
        checkCorner(corner);
        if (limit < LEAST_LIMIT || limit > MOST_LIMIT) {
            throw new IllegalArgumentException("the limit is out of range");
        }
        saved.save(now);
        int before = now.limitAt(corner);
        now.changeLimit(corner, limit);
        return before;
    }

    public int setLaps(int laps) throws IllegalArgumentException, IllegalStateException {
        if (laps < 1 || laps > MOST_LAPS) {
            throw new IllegalArgumentException("the laps are out of range");
        }
        if (now.racing) {
            throw new IllegalStateException("the race goes on");
        }
        saved.save(now);
        int before = now.laps;
        now.laps = laps;
        return before;
    }

    public int begin() throws IllegalStateException {
        if (now.count == 0) {
            throw new IllegalStateException("there is no sparrow");
        }
        saved.save(now);
        now.startRace();
        return now.count;
    }

    public int pass(int seconds) throws IllegalArgumentException, IllegalStateException {
        checkSeconds(seconds);
        checkRacing();
        saved.save(now);
        int before = now.arrivals;
        now.letGoBy(seconds);
        return now.arrivals - before;
    }

    // ---- texts

    public int append(int code) throws IllegalArgumentException, IllegalStateException {
        if (code < 33 || code > 126) {
            throw new IllegalArgumentException("the code is not 33 to 126");
        }
        if (text.isFull()) {
            throw new IllegalStateException("the buffer is full");
        }
        text.add((char) code);
        return text.length;
    }

    public int clearBuffer() {
        int before = text.length;
        text.length = 0;
        return before;
    }

    public int firstError() {
        return readText();
    }

    public int follow() throws IllegalArgumentException, IllegalStateException {
        if (readText() < text.length || !reader.isWhole()) {
            throw new IllegalArgumentException("the buffer does not tell orders");
        }
        int orders = followOnTrial();
        if (orders == NONE) {
            throw new IllegalStateException("an order cannot be followed");
        }
        saved.save(now);
        now.takeFrom(trial);
        text.length = 0;
        return orders;
    }

    // ---- snapshots, undo

    public void keep(int slot) throws IllegalArgumentException {
        checkSlot(slot);
        slots.put(slot, now);
    }

    public void goBack(int slot) throws IllegalArgumentException, IllegalStateException {
        checkSlot(slot);
        Race kept = slots.kept(slot);
        if (kept == null) {
            throw new IllegalStateException("there is no snapshot in the slot");
        }
        saved.save(now);
        now.takeFrom(kept);
    }

    public void undo() throws IllegalStateException {
        Race latest = saved.dropLatest();
        if (latest == null) {
            throw new IllegalStateException("no state is saved");
        }
        now.takeFrom(latest);
    }

    public int savedStates() {
        return saved.count;
    }

    // ---- sparrows as they are; nothing is changed

    public int sparrows() {
        return now.count;
    }

    public int flown(int bird) throws IndexOutOfBoundsException {
        return known(bird).flown;
    }

    public int lapsOf(int bird) throws IndexOutOfBoundsException {
        return known(bird).lapsOver();
    }

    public int speedOf(int bird) throws IndexOutOfBoundsException {
        return known(bird).speed;
    }

    public int strengthOf(int bird) throws IndexOutOfBoundsException {
        return known(bird).strength;
    }

    public int wearOf(int bird) throws IndexOutOfBoundsException {
        return known(bird).wear;
    }

    public int laneOf(int bird) throws IndexOutOfBoundsException {
        return known(bird).lane;
    }

    public int stateOf(int bird) throws IndexOutOfBoundsException {
        return known(bird).state;
    }

    public int paceOf(int bird) throws IndexOutOfBoundsException {
        return known(bird).pace;
    }

    public int partnerOf(int bird) throws IndexOutOfBoundsException, IllegalStateException {
        Sparrow sparrow = known(bird);
        if (sparrow.partner == NONE) {
            throw new IllegalStateException("the sparrow is in no pair");
        }
        return sparrow.partner;
    }

    public boolean isCalledIn(int bird) throws IndexOutOfBoundsException {
        return known(bird).calledIn;
    }

    public int limitOf(int corner) throws IndexOutOfBoundsException {
        checkCorner(corner);
        return now.limitAt(corner);
    }

    // ---- places; nothing is changed

    public int placeByCounting(int bird) throws IndexOutOfBoundsException {
        return now.countAheadOf(known(bird));
    }

    public int birdByOrder(int place) throws IndexOutOfBoundsException {
        now.putInOrder();
        Sparrow sparrow = now.inOrder(place);
        if (sparrow == null) {
            throw new IndexOutOfBoundsException("there are not so many sparrows");
        }
        return sparrow.number;
    }

    public int gapAhead(int bird) throws IndexOutOfBoundsException {
        return now.gapOf(known(bird));
    }

    public boolean isDrafting(int bird) throws IndexOutOfBoundsException, IllegalStateException {
        Sparrow sparrow = knownToFly(bird);
        return now.draftFeet(sparrow, now.nextAhead(sparrow)) > 0;
    }

    public int whereIs(int bird) throws IndexOutOfBoundsException {
        return known(bird).partOfCourse();
    }

    public int allowance(int bird) throws IndexOutOfBoundsException, IllegalStateException {
        return now.allowedFeet(knownToFly(bird));
    }

    // ---- what would be; nothing is changed

    public int wouldFly(int bird, int seconds)
            throws IndexOutOfBoundsException, IllegalArgumentException, IllegalStateException {
        Sparrow sparrow = known(bird);
        checkSeconds(seconds);
        checkRacing();
        return foretell(sparrow, sparrow.pace, seconds);
    }

    public int wouldWin() throws IllegalStateException {
        int winner = foretellWinner();
        if (winner == NONE) {
            throw new IllegalStateException("no sparrow would win");
        }
        return winner;
    }

    public int secondsToNext() throws IllegalStateException {
        int seconds = foretellSeconds();
        if (seconds == NONE) {
            throw new IllegalStateException("no sparrow would arrive");
        }
        return seconds;
    }

    public int flownWithPace(int bird, int pace)
            throws IndexOutOfBoundsException, IllegalArgumentException, IllegalStateException {
        Sparrow sparrow = known(bird);
        checkPace(pace);
        checkRacing();
        return foretell(sparrow, pace, PACE_TRIAL);
    }

    public int bestPace(int bird) throws IndexOutOfBoundsException, IllegalStateException {
        Sparrow sparrow = known(bird);
        checkRacing();
        return foretellBestPace(sparrow);
    }

    // ---- accounts; nothing is changed

    public boolean isRacing() {
        return now.racing;
    }

    public int seconds() {
        return now.seconds;
    }

    public int arrived() {
        return now.arrivals;
    }

    public int arrivedAt(int place) throws IndexOutOfBoundsException {
        Sparrow sparrow = now.arrivedAs(place);
        if (sparrow == null) {
            throw new IndexOutOfBoundsException("not so many sparrows have arrived");
        }
        return sparrow.number;
    }

    public int timeOf(int bird) throws IndexOutOfBoundsException, IllegalStateException {
        Sparrow sparrow = known(bird);
        if (sparrow.state != HAS_ARRIVED) {
            throw new IllegalStateException("the sparrow has not arrived");
        }
        return sparrow.arrivalSecond;
    }

    public int flownByBirds() {
        return now.sumFlown();
    }

    public int flownByAccount() {
        return now.account;
    }

    public int drafts() {
        return now.drafts;
    }

    public int changes() {
        return now.changes;
    }

    public int rests() {
        return now.rests;
    }

    public int races() {
        return now.races;
    }

    public int winsInPairs() {
        return now.winsInPairs;
    }

    public double meanFlown() {
        return now.count > 0 ? (double) now.sumFlown() / now.count : 0.0;
    }

    public long digest() {
        Hash hash = new Hash();
        hash.add(now.count);
        for (int bird = 0; bird < now.count; bird++) {
            Sparrow sparrow = now.at(bird);
            if (sparrow != null) {
                hashSparrow(hash, sparrow);
                hash.add(now.racing ? foretell(sparrow, sparrow.pace, 30) : 0);
            }
        }
        hashOrder(hash);
        for (int corner = 0; corner < CORNERS; corner++) {
            hash.add(now.limitAt(corner));
        }
        int seconds = foretellSeconds();
        hash.add(foretellWinner() + 1);
        hash.add(seconds == NONE ? 0 : seconds);
        Sparrow first = now.at(0);
        hash.add(first != null && now.racing ? foretellBestPace(first) : 0);
        hashAccounts(hash);
        for (int slot = 0; slot < SLOTS; slot++) {
            hash.add(slots.kept(slot) == null ? 0 : 1);
        }
        hash.add(text.length);
        for (int i = 0; i < text.length; i++) {
            hash.add(text.at(i));
        }
        return hash.value;
    }

    private void hashSparrow(Hash hash, Sparrow sparrow) {
        boolean flies = sparrow.state == FLIES;
        hash.add(sparrow.flown);
        hash.add(sparrow.lapsOver());
        hash.add(sparrow.speed);
        hash.add(sparrow.strength);
        hash.add(sparrow.wear);
        hash.add(sparrow.lane);
        hash.add(sparrow.state);
        hash.add(sparrow.pace);
        hash.add(sparrow.partner + 1);
        hash.add(sparrow.calledIn ? 1 : 0);
        hash.add(now.countAheadOf(sparrow));
        hash.add(now.gapOf(sparrow));
        hash.add(flies && now.draftFeet(sparrow, now.nextAhead(sparrow)) > 0 ? 1 : 0);
        hash.add(sparrow.partOfCourse());
        hash.add(flies ? now.allowedFeet(sparrow) : 0);
        hash.add(sparrow.state == HAS_ARRIVED ? sparrow.arrivalSecond : 0);
    }

    private void hashOrder(Hash hash) {
        now.putInOrder();
        for (int place = 0; place < now.count; place++) {
            Sparrow sparrow = now.inOrder(place);
            if (sparrow != null) {
                hash.add(sparrow.number);
            }
        }
    }

    private void hashAccounts(Hash hash) {
        hash.add(now.racing ? 1 : 0);
        hash.add(now.seconds);
        hash.add(now.arrivals);
        for (int place = 0; place < now.arrivals; place++) {
            Sparrow sparrow = now.arrivedAs(place);
            if (sparrow != null) {
                hash.add(sparrow.number);
            }
        }
        hash.add(now.sumFlown());
        hash.add(now.account);
        hash.add(now.drafts);
        hash.add(now.changes);
        hash.add(now.rests);
        hash.add(now.races);
        hash.add(now.winsInPairs);
        hash.add(saved.count);
        hash.add(bitsOf(meanFlown()));
    }

    /**
     * The language has no Double.doubleToLongBits. Halving and doubling are exact, so this tells
     * the same for every mean: a number from 0 to some thousands, and if not 0, no smaller than 1/8.
     */
    private static long bitsOf(double mean) {
        if (mean <= 0.0) {
            return 0L;
        }
        double fraction = mean;
        long exponent = 1023L;
        for (int i = 0; i < 64 && fraction >= 2.0; i++) {
            fraction = fraction / 2.0;
            exponent++;
        }
        for (int i = 0; i < 64 && fraction < 1.0; i++) {
            fraction = fraction * 2.0;
            exponent--;
        }
        return (exponent << 52) + (long) ((fraction - 1.0) * 4503599627370496.0);
    }

    private int foretell(Sparrow sparrow, int pace, int seconds) {
        trial.takeFrom(now);
        Sparrow tried = trial.at(sparrow.number);
        if (tried == null) {
            return 0;
        }
        tried.pace = pace;
        trial.letGoBy(seconds);
        return tried.flown;
    }

    private int foretellBestPace(Sparrow sparrow) {
        int best = LEAST_PACE;
        int furthest = NONE;
        for (int pace = LEAST_PACE; pace <= MOST_PACE; pace++) {
            int feet = foretell(sparrow, pace, PACE_TRIAL);
            if (feet > furthest) {
                furthest = feet;
                best = pace;
            }
        }
        return best;
    }

    /** The seconds to the next arrival, with the trial at its end then; NONE if there is none. */
    private int foretellSeconds() {
        trial.takeFrom(now);
        for (int second = 1; second <= FORESIGHT && trial.racing; second++) {
            trial.letGoBy(1);
            if (trial.arrivals > now.arrivals) {
                return second;
            }
        }
        return NONE;
    }

    private int foretellWinner() {
        if (now.arrivals > 0 || foretellSeconds() == NONE) {
            return NONE;
        }
        Sparrow winner = trial.arrivedAs(0);
        return winner == null ? NONE : winner.number;
    }

    /** The index of the first error, or the length; the reader is behind what was read then. */
    private int readText() {
        reader.start();
        for (int i = 0; i < text.length; i++) {
            if (!reader.accepts(text.at(i))) {
                return i;
            }
        }
        return text.length;
    }

    /** How many orders were followed, on the trial alone; NONE if one of them could not be. */
    private int followOnTrial() {
        trial.takeFrom(now);
        reader.start();
        int orders = 0;
        for (int i = 0; i < text.length; i++) {
            char sign = text.at(i);
            if (sign == ';') {
                if (!followOneOnTrial()) {
                    return NONE;
                }
                orders++;
            }
            reader.accepts(sign);
        }
        return followOneOnTrial() ? orders + 1 : NONE;
    }

    private boolean followOneOnTrial() {
        Sparrow sparrow = trial.at(reader.target);
        switch (reader.kind) {
            case 'p':
                if (sparrow == null) {
                    return false;
                }
                sparrow.pace = reader.number;
                return true;
            case 'n':
                if (sparrow == null || sparrow.state == HAS_ARRIVED) {
                    return false;
                }
                sparrow.calledIn = !sparrow.calledIn;
                return true;
            case 'c':
                trial.changeLimit(reader.target, reader.number);
                return true;
            default:
                if (!trial.racing) {
                    return false;
                }
                trial.letGoBy(reader.number);
                return true;
        }
    }

    private Sparrow known(int bird) {
        Sparrow sparrow = now.at(bird);
        if (sparrow == null) {
            throw new IndexOutOfBoundsException("there is no such sparrow");
        }
        return sparrow;
    }

    private Sparrow knownToFly(int bird) {
        Sparrow sparrow = known(bird);
        if (sparrow.state != FLIES) {
            throw new IllegalStateException("the sparrow does not fly");
        }
        return sparrow;
    }

    private void checkRacing() {
        if (!now.racing) {
            throw new IllegalStateException("no race goes on");
        }
    }

    private static boolean isPace(int pace) {
        return pace >= LEAST_PACE && pace <= MOST_PACE;
    }

    private static void checkPace(int pace) {
        if (!isPace(pace)) {
            throw new IllegalArgumentException("the pace is out of range");
        }
    }

    private static void checkSeconds(int seconds) {
        if (seconds < 1 || seconds > MOST_SECONDS) {
            throw new IllegalArgumentException("the seconds are out of range");
        }
    }

    private static void checkCorner(int corner) {
        if (corner < 0 || corner >= CORNERS) {
            throw new IndexOutOfBoundsException("there is no such corner");
        }
    }

    private static void checkSlot(int slot) {
        if (slot < 0 || slot >= SLOTS) {
            throw new IllegalArgumentException("the slot is out of range");
        }
    }

    private static final class Sparrow {
        final int number;
        int pace;
        int startStrength;
        int startLane;
        int flown;
        int speed;
        int strength;
        int wear;
        int lane;
        int state;
        int restLeft;
        boolean calledIn;
        int partner;
        int arrivalPlace;
        int arrivalSecond;

        Sparrow(int number) {
            this.number = number;
            this.partner = NONE;
        }

        void takeFrom(Sparrow other) {
            pace = other.pace;
            startStrength = other.startStrength;
            startLane = other.startLane;
            flown = other.flown;
            speed = other.speed;
            strength = other.strength;
            wear = other.wear;
            lane = other.lane;
            state = other.state;
            restLeft = other.restLeft;
            calledIn = other.calledIn;
            partner = other.partner;
            arrivalPlace = other.arrivalPlace;
            arrivalSecond = other.arrivalSecond;
        }

        void goToStart(int stateThere) {
            flown = 0;
            speed = 0;
            strength = startStrength;
            wear = 0;
            lane = startLane;
            state = stateThere;
            restLeft = 0;
            calledIn = false;
            arrivalPlace = 0;
            arrivalSecond = 0;
        }

        int lapsOver() {
            return flown / COURSE;
        }

        int partOfCourse() {
            int quarter = flown % COURSE / QUARTER;
            return flown % QUARTER < STRAIGHT ? quarter : quarter + CORNERS;
        }

        boolean isAheadOf(Sparrow other) {
            boolean arrived = state == HAS_ARRIVED;
            boolean otherArrived = other.state == HAS_ARRIVED;
            if (arrived && otherArrived) {
                return arrivalPlace < other.arrivalPlace;
            }
            if (arrived || otherArrived) {
                return arrived;
            }
            return flown > other.flown || flown == other.flown && number < other.number;
        }

        /** Along the course, 1 to 400. */
        int feetBehind(Sparrow other) {
            int feet = (other.flown - flown) % COURSE;
            return feet > 0 ? feet : feet + COURSE;
        }

        /** How far it flies, of so many feet, with the strength that it has and loses. */
        int flyWithStrength(int feet, boolean drafting) {
            int need = feet * feet / 40 + 1;
            if (drafting) {
                need = need * 3 / 5;
            }
            if (strength < need) {
                return feet < 4 ? feet : 4;
            }
            strength -= need;
            return feet;
        }

        void goToNest() {
            state = RESTS;
            restLeft = REST_SECONDS;
            calledIn = false;
            wear = 0;
            strength = strength + 300 < MOST_STRENGTH ? strength + 300 : MOST_STRENGTH;
        }

        /** Tells whether it flies at its turn; one that leaves its nest then does not yet. */
        boolean startsTurnFlying() {
            speed = 0;
            boolean flies = state == FLIES;
            if (state == RESTS) {
                restLeft--;
                state = restLeft > 0 ? RESTS : FLIES;
            }
            return flies;
        }
    }

    /** All that a snapshot holds: the sparrows, the course and the accounts. */
    private static final class Race {
        private final Sparrow[] birds = new Sparrow[MOST_SPARROWS];
        private final Sparrow[] order = new Sparrow[MOST_SPARROWS];
        private final int[] limits = new int[CORNERS];
        int count;
        int laps = 2;
        boolean racing;
        int seconds;
        int arrivals;
        int account;
        int drafts;
        int changes;
        int rests;
        int races;
        int winsInPairs;

        Race() {
            for (int i = 0; i < birds.length; i++) {
                birds[i] = new Sparrow(i);
            }
            for (int i = 0; i < limits.length; i++) {
                limits[i] = 20;
            }
        }

        void takeFrom(Race other) {
            for (int i = 0; i < birds.length && i < other.birds.length; i++) {
                Sparrow to = birds[i];
                Sparrow from = other.birds[i];
                if (to != null && from != null) {
                    to.takeFrom(from);
                }
            }
            for (int i = 0; i < limits.length && i < other.limits.length; i++) {
                limits[i] = other.limits[i];
            }
            count = other.count;
            laps = other.laps;
            racing = other.racing;
            seconds = other.seconds;
            arrivals = other.arrivals;
            account = other.account;
            drafts = other.drafts;
            changes = other.changes;
            rests = other.rests;
            races = other.races;
            winsInPairs = other.winsInPairs;
        }

        /** The sparrow of that number, or null. */
        Sparrow at(int number) {
            if (number < 0 || number >= count || number >= birds.length) {
                return null;
            }
            return birds[number];
        }

        int limitAt(int corner) {
            return corner >= 0 && corner < limits.length ? limits[corner] : 0;
        }

        void changeLimit(int corner, int limit) {
            if (corner >= 0 && corner < limits.length) {
                limits[corner] = limit;
            }
        }

        int addSparrow(int pace, int strength, int lane) {
            count++;
            Sparrow sparrow = at(count - 1);
            if (sparrow != null) {
                sparrow.pace = pace;
                sparrow.startStrength = strength;
                sparrow.startLane = lane;
                sparrow.partner = NONE;
                sparrow.goToStart(WAITS);
            }
            return count - 1;
        }

        void makePair(Sparrow one, Sparrow another) {
            partFromPartner(one);
            partFromPartner(another);
            one.partner = another.number;
            another.partner = one.number;
        }

        private void partFromPartner(Sparrow sparrow) {
            Sparrow partner = at(sparrow.partner);
            if (partner != null) {
                partner.partner = NONE;
            }
            sparrow.partner = NONE;
        }

        int countPairs() {
            int pairs = 0;
            for (Sparrow sparrow : birds) {
                if (isThere(sparrow) && sparrow.partner > sparrow.number) {
                    pairs++;
                }
            }
            return pairs;
        }

        void startRace() {
            for (Sparrow sparrow : birds) {
                if (isThere(sparrow)) {
                    sparrow.goToStart(FLIES);
                }
            }
            racing = true;
            seconds = 0;
            arrivals = 0;
            account = 0;
            drafts = 0;
            changes = 0;
            rests = 0;
            races++;
        }

        private boolean isThere(Sparrow sparrow) {
            return sparrow != null && sparrow.number < count;
        }

        int countAheadOf(Sparrow sparrow) {
            int ahead = 0;
            for (Sparrow other : birds) {
                if (isThere(other) && other.isAheadOf(sparrow)) {
                    ahead++;
                }
            }
            return ahead;
        }

        void putInOrder() {
            int placed = 0;
            for (Sparrow sparrow : birds) {
                if (isThere(sparrow)) {
                    insertInOrder(sparrow, placed);
                    placed++;
                }
            }
        }

        private void insertInOrder(Sparrow sparrow, int placed) {
            int place = placed;
            while (place > 0 && place < order.length) {
                Sparrow before = order[place - 1];
                if (before == null || before.isAheadOf(sparrow)) {
                    break;
                }
                order[place] = before;
                place--;
            }
            if (place >= 0 && place < order.length) {
                order[place] = sparrow;
            }
        }

        /** The sparrow at that place when they were last put in order, or null. */
        Sparrow inOrder(int place) {
            if (place < 0 || place >= count || place >= order.length) {
                return null;
            }
            return order[place];
        }

        /** The sparrow that arrived as the one of that place, or null. */
        Sparrow arrivedAs(int place) {
            for (Sparrow sparrow : birds) {
                if (isThere(sparrow) && sparrow.state == HAS_ARRIVED && sparrow.arrivalPlace == place) {
                    return sparrow;
                }
            }
            return null;
        }

        int sumFlown() {
            int feet = 0;
            for (Sparrow sparrow : birds) {
                if (isThere(sparrow)) {
                    feet += sparrow.flown;
                }
            }
            return feet;
        }

        /** The next one ahead that flies in its lane, or null. */
        Sparrow nextAhead(Sparrow sparrow) {
            Sparrow next = null;
            int least = COURSE + 1;
            for (Sparrow other : birds) {
                if (isInTheWay(other, sparrow, sparrow.lane)) {
                    int feet = sparrow.feetBehind(other);
                    if (feet < least) {
                        least = feet;
                        next = other;
                    }
                }
            }
            return next;
        }

        private boolean isInTheWay(Sparrow other, Sparrow sparrow, int lane) {
            return other != null && other.number < count && other.number != sparrow.number
                && other.state == FLIES && other.lane == lane;
        }

        int gapOf(Sparrow sparrow) {
            Sparrow ahead = nextAhead(sparrow);
            return ahead == null ? 0 : sparrow.feetBehind(ahead);
        }

        int allowedFeet(Sparrow sparrow) {
            int feet = sparrow.pace;
            int corner = sparrow.partOfCourse() - CORNERS;
            if (corner >= 0) {
                int limit = limitAt(corner) + (sparrow.lane == OUTSIDE ? 2 : 0);
                feet = limit < feet ? limit : feet;
            }
            feet -= sparrow.wear / 10;
            return feet < 4 ? 4 : feet;
        }

        /** How much further it may fly in the draft of the next one ahead; 0 if it is in none. */
        int draftFeet(Sparrow sparrow, Sparrow ahead) {
            if (ahead == null || sparrow.feetBehind(ahead) > 8) {
                return 0;
            }
            return ahead.number == sparrow.partner ? 2 : 1;
        }

        private boolean mayChangeLane(Sparrow sparrow) {
            if (sparrow.partOfCourse() >= CORNERS) {
                return false;
            }
            for (Sparrow other : birds) {
                if (isInTheWay(other, sparrow, 1 - sparrow.lane)) {
                    int feet = sparrow.feetBehind(other);
                    if (feet <= 3 || feet >= COURSE - 3) {
                        return false;
                    }
                }
            }
            return true;
        }

        void letGoBy(int most) {
            for (int i = 0; i < most && racing; i++) {
                seconds++;
                putInOrder();
                for (int place = 0; place < count; place++) {
                    Sparrow sparrow = inOrder(place);
                    if (sparrow != null && sparrow.startsTurnFlying()) {
                        fly(sparrow);
                    }
                }
                racing = arrivals < count;
            }
        }

        private void fly(Sparrow sparrow) {
            Sparrow ahead = nextAhead(sparrow);
            int draft = draftFeet(sparrow, ahead);
            if (draft > 0) {
                drafts++;
            }
            int feet = allowedFeet(sparrow) + draft;
            if (ahead != null && feet >= sparrow.feetBehind(ahead) - 1 && mayChangeLane(sparrow)) {
                sparrow.lane = 1 - sparrow.lane;
                changes++;
                ahead = nextAhead(sparrow);
            }
            if (ahead != null) {
                int room = sparrow.feetBehind(ahead) - 1;
                feet = room < feet ? room : feet;
            }
            feet = sparrow.flyWithStrength(feet, draft > 0);
            if (feet >= 15 && sparrow.wear < 100) {
                sparrow.wear++;
            }
            flyOn(sparrow, feet);
        }

        private void flyOn(Sparrow sparrow, int feet) {
            int lapEnd = (sparrow.lapsOver() + 1) * COURSE;
            int to = sparrow.flown + feet;
            boolean lapIsOver = to >= lapEnd;
            boolean arrives = lapIsOver && lapEnd >= laps * COURSE;
            boolean goesToNest = lapIsOver && !arrives && sparrow.calledIn;
            if (arrives || goesToNest) {
                to = lapEnd;
            }
            sparrow.speed = to - sparrow.flown;
            sparrow.flown = to;
            account += sparrow.speed;
            if (arrives) {
                noteArrival(sparrow);
            } else if (goesToNest) {
                sparrow.goToNest();
                rests++;
            }
        }

        private void noteArrival(Sparrow sparrow) {
            sparrow.state = HAS_ARRIVED;
            sparrow.arrivalPlace = arrivals;
            sparrow.arrivalSecond = seconds;
            if (arrivals == 0 && sparrow.partner != NONE) {
                winsInPairs++;
            }
            arrivals++;
        }
    }

    /** The saved states, the oldest one first; the rows are used again. */
    private static final class SavedRaces {
        private final Race[] rows = new Race[MOST_SAVED];
        int count;

        SavedRaces() {
            for (int i = 0; i < rows.length; i++) {
                rows[i] = new Race();
            }
        }

        void save(Race race) {
            if (count >= rows.length) {
                dropOldest();
            }
            if (count >= 0 && count < rows.length) {
                Race row = rows[count];
                if (row != null) {
                    row.takeFrom(race);
                    count++;
                }
            }
        }

        private void dropOldest() {
            for (int i = 1; i < rows.length; i++) {
                Race older = rows[i - 1];
                rows[i - 1] = rows[i];
                rows[i] = older;
            }
            count--;
        }

        /** The latest one, or null; its row holds it until the next one is saved. */
        Race dropLatest() {
            if (count <= 0 || count > rows.length) {
                return null;
            }
            count--;
            return rows[count];
        }
    }

    private static final class Slots {
        private final Race[] rows = new Race[SLOTS];
        private final boolean[] taken = new boolean[SLOTS];

        Slots() {
            for (int i = 0; i < rows.length; i++) {
                rows[i] = new Race();
            }
        }

        void put(int slot, Race race) {
            if (slot >= 0 && slot < rows.length && slot < taken.length) {
                Race row = rows[slot];
                if (row != null) {
                    row.takeFrom(race);
                    taken[slot] = true;
                }
            }
        }

        /** The snapshot in the slot, or null. */
        Race kept(int slot) {
            if (slot < 0 || slot >= rows.length || slot >= taken.length || !taken[slot]) {
                return null;
            }
            return rows[slot];
        }
    }

    private static final class OrderText {
        private final char[] signs = new char[60];
        int length;

        boolean isFull() {
            return length >= signs.length;
        }

        void add(char sign) {
            if (length >= 0 && length < signs.length) {
                signs[length] = sign;
                length++;
            }
        }

        char at(int index) {
            return index >= 0 && index < signs.length ? signs[index] : ' ';
        }
    }

    /** Reads orders sign by sign, and refuses the first one with which no orders go on. */
    private static final class OrderReader {
        private static final int AT_KIND = 0;
        private static final int AT_TARGET = 1;
        private static final int AT_EQUALS = 2;
        private static final int AT_NUMBER = 3;
        private static final int AT_END = 4;

        private int place;
        char kind;
        int target;
        int number;

        void start() {
            place = AT_KIND;
            kind = ' ';
            target = NONE;
            number = 0;
        }

        boolean accepts(char sign) {
            if (sign == ';') {
                if (!isWhole()) {
                    return false;
                }
                start();
                return true;
            }
            switch (place) {
                case AT_KIND:
                    return acceptsKind(sign);
                case AT_TARGET:
                    return acceptsTarget(sign);
                case AT_EQUALS:
                    place = AT_NUMBER;
                    return sign == '=';
                case AT_NUMBER:
                    return acceptsDigit(sign);
                default:
                    return false;
            }
        }

        /** Tells whether the part that is read could be the last one. */
        boolean isWhole() {
            return place == AT_END || place == AT_NUMBER && number >= least() && number <= most();
        }

        private boolean acceptsKind(char sign) {
            kind = sign;
            place = sign == 't' ? AT_NUMBER : AT_TARGET;
            return sign == 'p' || sign == 'n' || sign == 'c' || sign == 't';
        }

        private boolean acceptsTarget(char sign) {
            target = sign - '0';
            place = kind == 'n' ? AT_END : AT_EQUALS;
            return target >= 0 && target < (kind == 'c' ? CORNERS : MOST_SPARROWS);
        }

        private boolean acceptsDigit(char sign) {
            if (sign < '0' || sign > '9') {
                return false;
            }
            number = number * 10 + (sign - '0');
            return number > 0 && canBecomeNumber();
        }

        /** Tells whether the number is one that is due, or begins one. */
        private boolean canBecomeNumber() {
            int low = number;
            int high = number;
            for (int digits = 0; digits < 3; digits++) {
                if (low <= most() && high >= least()) {
                    return true;
                }
                low = low * 10;
                high = high * 10 + 9;
            }
            return false;
        }

        private int least() {
            return kind == 'p' ? LEAST_PACE : kind == 'c' ? LEAST_LIMIT : 1;
        }

        private int most() {
            return kind == 'p' ? MOST_PACE : kind == 'c' ? MOST_LIMIT : MOST_SECONDS;
        }
    }

    private static final class Hash {
        long value = 4637L;

        void add(long next) {
            value = 31L * value + next;
        }
    }
}
