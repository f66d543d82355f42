import java.util.ArrayDeque;
import java.util.ArrayList;
import java.util.Arrays;
import java.util.Comparator;
import java.util.Deque;
import java.util.List;
import java.util.function.IntSupplier;
import java.util.regex.Matcher;
import java.util.regex.Pattern;

/**
 * The same race once more, written from the document alone and without regard to what it costs:
 * every state is copied whole, orders are told by a pattern, places by a sorted list.
 */
public final class PlainRace {
    private static final Pattern PART = Pattern.compile(
        "p([0-7])=([123][0-9]|40)|n([0-7])|c([0-3])=([89]|[123][0-9]|40)|t([1-9][0-9]?|1[0-9][0-9]|200)");
    private static final Pattern ORDERS = Pattern.compile("(" + PART + ")(;(" + PART + "))*");

    private static final class Bird implements Cloneable {
        int number, pace, startStrength, startLane, flown, speed, strength, wear, lane, state, leaves, time;
        int partner = -1;
        boolean called;

        Bird copy() {
            try {
                return (Bird) clone();
            } catch (CloneNotSupportedException e) {
                throw new AssertionError(e);
            }
        }
    }

    private static final class World {
        List<Bird> birds = new ArrayList<>();
        List<Integer> arrived = new ArrayList<>();
        int[] limits = {20, 20, 20, 20};
        int laps = 2, seconds, account, drafts, changes, rests, races, wins;
        boolean begun;

        World copy() {
            World w = new World();
            for (Bird b : birds) {
                w.birds.add(b.copy());
            }
            w.arrived.addAll(arrived);
            w.limits = limits.clone();
            w.laps = laps;
            w.seconds = seconds;
            w.account = account;
            w.drafts = drafts;
            w.changes = changes;
            w.rests = rests;
            w.races = races;
            w.wins = wins;
            w.begun = begun;
            return w;
        }

        List<Bird> byPlace() {
            List<Bird> sorted = new ArrayList<>(birds);
            sorted.sort(Comparator.<Bird>comparingInt(b -> b.state == 3 ? arrived.indexOf(b.number) : 8)
                .thenComparingInt(b -> -b.flown).thenComparingInt(b -> b.number));
            return sorted;
        }

        Bird ahead(Bird b, int lane) {
            Bird next = null;
            for (int i = birds.size() - 1; i >= 0; i--) {
                Bird o = birds.get(i);
                if (o != b && o.state == 1 && o.lane == lane && (next == null || gap(b, o) <= gap(b, next))) {
                    next = o;
                }
            }
            return next;
        }

        int gap(Bird b, Bird o) {
            int feet = Math.floorMod(o.flown - b.flown, 400);
            return feet == 0 ? 400 : feet;
        }

        boolean draft(Bird b) {
            Bird o = ahead(b, b.lane);
            return o != null && gap(b, o) <= 8;
        }

        boolean inCorner(Bird b) {
            return b.flown % 100 >= 70;
        }

        int allowance(Bird b) {
            int most = b.pace;
            if (inCorner(b)) {
                most = Math.min(most, limits[b.flown % 400 / 100] + 2 * b.lane);
            }
            return Math.max(4, most - b.wear / 10);
        }

        boolean otherLaneFree(Bird b) {
            for (Bird o : birds) {
                if (o != b && o.state == 1 && o.lane != b.lane) {
                    int feet = Math.abs(o.flown % 400 - b.flown % 400);
                    if (Math.min(feet, 400 - feet) <= 3) {
                        return false;
                    }
                }
            }
            return true;
        }

        void second() {
            seconds++;
            for (Bird b : byPlace()) {
                int from = b.flown;
                if (b.state == 2 && b.leaves == seconds) {
                    b.state = 1;
                } else if (b.state == 1) {
                    turn(b);
                }
                b.speed = b.flown - from;
            }
            for (Bird b : birds) {
                account += b.speed;
            }
            if (arrived.size() == birds.size()) {
                begun = false;
            }
        }

        void turn(Bird b) {
            Bird o = ahead(b, b.lane);
            boolean draft = draft(b);
            int feet = allowance(b);
            if (draft) {
                drafts++;
                feet += o.number == b.partner ? 2 : 1;
            }
            if (o != null && gap(b, o) - feet <= 1) {
                if (!inCorner(b) && otherLaneFree(b)) {
                    changes++;
                    b.lane = b.lane == 0 ? 1 : 0;
                    Bird next = ahead(b, b.lane);
                    if (next != null) {
                        feet = Math.min(feet, gap(b, next) - 1);
                    }
                } else {
                    feet = gap(b, o) - 1;
                }
            }
            int need = feet * feet / 40 + 1;
            need = draft ? 3 * need / 5 : need;
            if (b.strength < need) {
                feet = Math.min(feet, 4);
            } else {
                b.strength -= need;
            }
            if (feet >= 15) {
                b.wear = Math.min(100, b.wear + 1);
            }
            int lap = b.flown / 400;
            b.flown += feet;
            if (b.flown / 400 > lap) {
                lapEnds(b, lap + 1);
            }
        }

        void lapEnds(Bird b, int lap) {
            if (lap == laps) {
                b.flown = 400 * lap;
                b.state = 3;
                b.time = seconds;
                if (arrived.isEmpty() && b.partner >= 0) {
                    wins++;
                }
                arrived.add(b.number);
            } else if (b.called) {
                b.flown = 400 * lap;
                b.state = 2;
                b.leaves = seconds + 12;
                b.called = false;
                b.wear = 0;
                b.strength = Math.min(999, b.strength + 300);
                rests++;
            }
        }

        void pass(int n) {
            for (int i = 0; i < n && begun; i++) {
                second();
            }
        }
    }

    private World world = new World();
    private final World[] slots = new World[2];
    private final Deque<World> saved = new ArrayDeque<>();
    private String buffer = "";

    private void save() {
        saved.addLast(world.copy());
        if (saved.size() > 6) {
            saved.removeFirst();
        }
    }

    private Bird bird(int number) {
        must(number >= 0 && number < world.birds.size(), 0);
        return world.birds.get(number);
    }

    /** 0 is an index, 1 an argument, 2 the state. */
    private static void must(boolean holds, int kind) {
        if (!holds) {
            throw kind == 0 ? new IndexOutOfBoundsException()
                : kind == 1 ? new IllegalArgumentException() : new IllegalStateException();
        }
    }

    private static boolean in(int value, int least, int most) {
        return least <= value && value <= most;
    }

    public int enter(int pace, int strength, int lane) {
        must(in(pace, 10, 40) && in(strength, 100, 999) && in(lane, 0, 1), 1);
        must(world.birds.size() < 8 && !world.begun, 2);
        save();
        Bird b = new Bird();
        b.number = world.birds.size();
        b.pace = pace;
        b.strength = strength;
        b.startStrength = strength;
        b.lane = lane;
        b.startLane = lane;
        world.birds.add(b);
        return b.number;
    }

    public int setPace(int bird, int pace) {
        bird(bird);
        must(in(pace, 10, 40), 1);
        save();
        int before = bird(bird).pace;
        bird(bird).pace = pace;
        return before;
    }

    public boolean callIn(int bird) {
        must(bird(bird).state != 3, 2);
        save();
        return bird(bird).called = !bird(bird).called;
    }

    public int pair(int bird, int other) {
        bird(bird);
        bird(other);
        must(bird != other, 1);
        save();
        for (Bird b : world.birds) {
            if (b.partner == bird || b.partner == other || b.number == bird || b.number == other) {
                b.partner = -1;
            }
        }
        bird(bird).partner = other;
        bird(other).partner = bird;
        return (int) world.birds.stream().filter(b -> b.partner >= 0).count() / 2;
    }

    public int setLimit(int corner, int limit) {
        must(in(corner, 0, 3), 0);
        must(in(limit, 8, 40), 1);
        save();
        int before = world.limits[corner];
        world.limits[corner] = limit;
        return before;
    }

    public int setLaps(int laps) {
        must(in(laps, 1, 9), 1);
        must(!world.begun, 2);
        save();
        int before = world.laps;
        world.laps = laps;
        return before;
    }

    public int begin() {
        must(!world.birds.isEmpty(), 2);
        save();
        for (Bird b : world.birds) {
            b.flown = 0;
            b.speed = 0;
            b.wear = 0;
            b.strength = b.startStrength;
            b.lane = b.startLane;
            b.state = 1;
            b.called = false;
        }
        world.arrived.clear();
        world.begun = true;
        world.seconds = 0;
        world.account = 0;
        world.drafts = 0;
        world.changes = 0;
        world.rests = 0;
        world.races++;
        return world.birds.size();
    }

    public int pass(int seconds) {
        must(in(seconds, 1, 200), 1);
        must(world.begun, 2);
        save();
        int before = world.arrived.size();
        world.pass(seconds);
        return world.arrived.size() - before;
    }

    public int append(int code) {
        must(in(code, 33, 126), 1);
        must(buffer.length() < 60, 2);
        buffer += (char) code;
        return buffer.length();
    }

    public int clearBuffer() {
        int before = buffer.length();
        buffer = "";
        return before;
    }

    public int firstError() {
        for (int i = 0; i < buffer.length(); i++) {
            Matcher m = ORDERS.matcher(buffer.substring(0, i + 1));
            if (!m.matches() && !m.hitEnd()) {
                return i;
            }
        }
        return buffer.length();
    }

    public int follow() {
        must(ORDERS.matcher(buffer).matches(), 1);
        String[] parts = buffer.split(";");
        World before = world.copy();
        List<World> savedBefore = new ArrayList<>(saved);
        try {
            for (String part : parts) {
                followOne(part);
            }
        } catch (RuntimeException e) {
            world = before;
            saved.clear();
            saved.addAll(savedBefore);
            throw new IllegalStateException();
        }
        saved.clear();
        saved.addAll(savedBefore);
        World after = world;
        world = before;
        save();
        world = after;
        buffer = "";
        return parts.length;
    }

    private void followOne(String part) {
        int target = part.charAt(1) - '0';
        switch (part.charAt(0)) {
            case 'p' -> setPace(target, Integer.parseInt(part.substring(3)));
            case 'n' -> callIn(target);
            case 'c' -> setLimit(target, Integer.parseInt(part.substring(3)));
            default -> pass(Integer.parseInt(part.substring(1)));
        }
    }

    public void keep(int slot) {
        must(in(slot, 0, 1), 1);
        slots[slot] = world.copy();
    }

    public void goBack(int slot) {
        must(in(slot, 0, 1), 1);
        must(slots[slot] != null, 2);
        save();
        world = slots[slot].copy();
    }

    public void undo() {
        must(!saved.isEmpty(), 2);
        world = saved.removeLast();
    }

    public int savedStates() {
        return saved.size();
    }

    public int sparrows() {
        return world.birds.size();
    }

    public int flown(int bird) {
        return bird(bird).flown;
    }

    public int lapsOf(int bird) {
        return bird(bird).flown / 400;
    }

    public int speedOf(int bird) {
        return bird(bird).speed;
    }

    public int strengthOf(int bird) {
        return bird(bird).strength;
    }

    public int wearOf(int bird) {
        return bird(bird).wear;
    }

    public int laneOf(int bird) {
        return bird(bird).lane;
    }

    public int stateOf(int bird) {
        return bird(bird).state;
    }

    public int paceOf(int bird) {
        return bird(bird).pace;
    }

    public int partnerOf(int bird) {
        must(bird(bird).partner >= 0, 2);
        return bird(bird).partner;
    }

    public boolean isCalledIn(int bird) {
        return bird(bird).called;
    }

    public int limitOf(int corner) {
        must(in(corner, 0, 3), 0);
        return world.limits[corner];
    }

    public int placeByCounting(int bird) {
        return world.byPlace().indexOf(bird(bird));
    }

    public int birdByOrder(int place) {
        bird(place);
        return world.byPlace().get(place).number;
    }

    public int gapAhead(int bird) {
        Bird b = bird(bird);
        Bird o = world.ahead(b, b.lane);
        return o == null ? 0 : world.gap(b, o);
    }

    public boolean isDrafting(int bird) {
        must(bird(bird).state == 1, 2);
        return world.draft(bird(bird));
    }

    public int whereIs(int bird) {
        int[] ends = {70, 100, 170, 200, 270, 300, 370, 400};
        int spot = bird(bird).flown % 400;
        int part = (int) Arrays.stream(ends).filter(end -> end <= spot).count();
        return part / 2 + part % 2 * 4;
    }

    public int allowance(int bird) {
        must(bird(bird).state == 1, 2);
        return world.allowance(bird(bird));
    }

    public int wouldFly(int bird, int seconds) {
        bird(bird);
        must(in(seconds, 1, 200), 1);
        must(world.begun, 2);
        World w = world.copy();
        w.pass(seconds);
        return w.birds.get(bird).flown;
    }

    public int wouldWin() {
        must(world.begun && world.arrived.isEmpty(), 2);
        World w = world.copy();
        w.pass(2000);
        must(!w.arrived.isEmpty(), 2);
        return w.arrived.get(0);
    }

    public int secondsToNext() {
        must(world.begun, 2);
        World w = world.copy();
        for (int i = 1; i <= 2000; i++) {
            w.pass(1);
            if (w.arrived.size() > world.arrived.size()) {
                return i;
            }
        }
        throw new IllegalStateException();
    }

    public int flownWithPace(int bird, int pace) {
        bird(bird);
        must(in(pace, 10, 40), 1);
        must(world.begun, 2);
        World w = world.copy();
        w.birds.get(bird).pace = pace;
        w.pass(50);
        return w.birds.get(bird).flown;
    }

    public int bestPace(int bird) {
        bird(bird);
        must(world.begun, 2);
        int best = 40;
        for (int pace = 39; pace >= 10; pace--) {
            best = flownWithPace(bird, pace) >= flownWithPace(bird, best) ? pace : best;
        }
        return best;
    }

    public boolean isRacing() {
        return world.begun;
    }

    public int seconds() {
        return world.seconds;
    }

    public int arrived() {
        return world.arrived.size();
    }

    public int arrivedAt(int place) {
        must(in(place, 0, world.arrived.size() - 1), 0);
        return world.arrived.get(place);
    }

    public int timeOf(int bird) {
        must(bird(bird).state == 3, 2);
        return bird(bird).time;
    }

    public int flownByBirds() {
        return world.birds.stream().mapToInt(b -> b.flown).sum();
    }

    public int flownByAccount() {
        return world.account;
    }

    public int drafts() {
        return world.drafts;
    }

    public int changes() {
        return world.changes;
    }

    public int rests() {
        return world.rests;
    }

    public int races() {
        return world.races;
    }

    public int winsInPairs() {
        return world.wins;
    }

    public double meanFlown() {
        return world.birds.isEmpty() ? 0.0 : (double) flownByBirds() / world.birds.size();
    }

    private static int or0(IntSupplier call) {
        try {
            return call.getAsInt();
        } catch (IllegalStateException | IndexOutOfBoundsException e) {
            return 0;
        }
    }

    private void tellSparrow(List<Integer> values, int b) {
        values.addAll(List.of(flown(b), lapsOf(b), speedOf(b), strengthOf(b), wearOf(b), laneOf(b)));
        values.addAll(List.of(stateOf(b), paceOf(b), or0(() -> partnerOf(b) + 1), isCalledIn(b) ? 1 : 0));
        values.addAll(List.of(placeByCounting(b), gapAhead(b), or0(() -> isDrafting(b) ? 1 : 0), whereIs(b)));
        values.addAll(List.of(or0(() -> allowance(b)), or0(() -> timeOf(b)), or0(() -> wouldFly(b, 30))));
    }

    private static long hash(long hash, List<Integer> values) {
        for (int value : values) {
            hash = 31 * hash + value;
        }
        return hash;
    }

    public long digest() {
        List<Integer> values = new ArrayList<>(List.of(sparrows()));
        for (int b = 0; b < sparrows(); b++) {
            tellSparrow(values, b);
        }
        world.byPlace().forEach(b -> values.add(b.number));
        Arrays.stream(world.limits).forEach(values::add);
        values.addAll(List.of(or0(() -> wouldWin() + 1), or0(this::secondsToNext), or0(() -> bestPace(0))));
        values.addAll(List.of(isRacing() ? 1 : 0, seconds(), arrived()));
        values.addAll(world.arrived);
        values.addAll(List.of(flownByBirds(), flownByAccount(), drafts(), changes(), rests(), races()));
        values.addAll(List.of(winsInPairs(), savedStates()));
        long hash = 31 * hash(4637, values) + Double.doubleToLongBits(meanFlown());
        List<Integer> rest = new ArrayList<>(List.of(slots[0] == null ? 0 : 1, slots[1] == null ? 0 : 1));
        rest.add(buffer.length());
        buffer.chars().forEach(rest::add);
        return hash(hash, rest);
    }
}
