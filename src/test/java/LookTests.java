/** Promises 18 to 35: sparrows as they are, and places. */
final class LookTests {
    private LookTests() {
    }

    static void run() {
        noSuchSparrow();
        asTheyAre();
        partnersAndLimits();
        places();
        placesOfArrived();
        gaps();
        drafting();
        whereabouts();
        allowance();
    }

    private static void noSuchSparrow() {
        SparrowRace r = Races.with(20, 500, 0, 30, 600, 1);
        for (int bird : new int[] {-1, 2, 8, Integer.MIN_VALUE, Integer.MAX_VALUE}) {
            Check.noBird("flown " + bird, r, () -> r.flown(bird));
            Check.noBird("lapsOf " + bird, r, () -> r.lapsOf(bird));
            Check.noBird("speedOf " + bird, r, () -> r.speedOf(bird));
            Check.noBird("strengthOf " + bird, r, () -> r.strengthOf(bird));
            Check.noBird("wearOf " + bird, r, () -> r.wearOf(bird));
            Check.noBird("laneOf " + bird, r, () -> r.laneOf(bird));
            Check.noBird("stateOf " + bird, r, () -> r.stateOf(bird));
            Check.noBird("paceOf " + bird, r, () -> r.paceOf(bird));
            Check.noBird("partnerOf " + bird, r, () -> r.partnerOf(bird));
            Check.noBird("isCalledIn " + bird, r, () -> r.isCalledIn(bird));
            Check.noBird("placeByCounting " + bird, r, () -> r.placeByCounting(bird));
            Check.noBird("birdByOrder " + bird, r, () -> r.birdByOrder(bird));
            Check.noBird("gapAhead " + bird, r, () -> r.gapAhead(bird));
            Check.noBird("isDrafting " + bird, r, () -> r.isDrafting(bird));
            Check.noBird("whereIs " + bird, r, () -> r.whereIs(bird));
            Check.noBird("allowance " + bird, r, () -> r.allowance(bird));
            Check.noBird("timeOf " + bird, r, () -> r.timeOf(bird));
            Check.noBird("arrivedAt " + bird, r, () -> r.arrivedAt(bird));
        }
    }

    private static void asTheyAre() {
        SparrowRace r = Races.with(20, 500, 0, 30, 600, 1);
        Check.due("sparrows", r.sparrows(), 2);
        Check.due("they wait", r.stateOf(0) + " " + r.stateOf(1), "0 0");
        r.begin();
        Check.due("they fly", r.stateOf(0) + " " + r.stateOf(1), "1 1");
        Check.due("no speed ahead of the first second", r.speedOf(1), 0);
        r.pass(2);
        Check.due("flown", r.flown(0) + " " + r.flown(1), "40 60");
        Check.due("speedOf", r.speedOf(0) + " " + r.speedOf(1), "20 30");
        Check.due("strengthOf", r.strengthOf(0) + " " + r.strengthOf(1), "478 554");
        Check.due("wearOf", r.wearOf(0) + " " + r.wearOf(1), "2 2");
        Check.due("laneOf", r.laneOf(0) + " " + r.laneOf(1), "0 1");
        Check.due("paceOf", r.paceOf(0) + " " + r.paceOf(1), "20 30");
        Check.due("lapsOf", r.lapsOf(0), 0);
        r.callIn(1);
        Check.due("isCalledIn", r.isCalledIn(0) + " " + r.isCalledIn(1), "false true");
        r.callIn(1);
        r.pass(200);
        Check.due("lapsOf all", r.lapsOf(0) + " " + r.lapsOf(1), "2 2");
        Check.due("they have arrived", r.stateOf(0) + " " + r.stateOf(1), "3 3");
        Check.due("flown just as far", r.flown(0) + " " + r.flown(1), "800 800");
        Check.due("it flew no further in the latest seconds", r.speedOf(r.arrivedAt(0)), 0);
    }

    private static void partnersAndLimits() {
        SparrowRace r = Races.with(20, 500, 0, 30, 600, 1);
        Check.badState("partnerOf none", r, () -> r.partnerOf(0));
        r.pair(1, 0);
        Check.due("partnerOf", r.partnerOf(0) + " " + r.partnerOf(1), "1 0");
        Check.due("limitOf", r.limitOf(0) + " " + r.limitOf(3), "20 20");
        Check.noBird("limitOf 4", r, () -> r.limitOf(4));
        Check.noBird("limitOf -1", r, () -> r.limitOf(-1));
    }

    private static String both(SparrowRace r, int birds) {
        StringBuilder s = new StringBuilder();
        for (int i = 0; i < birds; i++) {
            s.append(r.placeByCounting(i)).append(r.birdByOrder(i)).append(' ');
        }
        return s.toString();
    }

    private static void places() {
        SparrowRace r = Races.with(10, 500, 0, 30, 600, 1, 20, 500, 0, 10, 500, 1);
        Check.due("at the start", both(r, 4), "00 11 22 33 ");
        r.begin();
        r.pass(1);
        // Sparrows 0 and 3 have flown as far, so the lower number is ahead.
        Check.due("flown", r.flown(0) + " " + r.flown(1) + " " + r.flown(2) + " " + r.flown(3), "10 30 9 10");
        Check.due("after a second", both(r, 4), "11 00 33 22 ");
        Check.noBird("birdByOrder 4", r, () -> r.birdByOrder(4));
    }

    private static void placesOfArrived() {
        SparrowRace r = Races.with(20, 999, 0, 40, 999, 1, 10, 999, 1);
        r.setLaps(1);
        r.begin();
        r.pass(22);
        Check.due("arrived", r.arrived() + " " + r.arrivedAt(0) + " " + r.arrivedAt(1), "2 1 0");
        Check.due("the later one is behind", r.placeByCounting(1) + " " + r.placeByCounting(0), "0 1");
        Check.due("the other one behind both", r.placeByCounting(2), 2);
        Check.due("in order", r.birdByOrder(0) + " " + r.birdByOrder(1) + " " + r.birdByOrder(2), "1 0 2");
        SparrowRace over = Races.over();
        over.enter(10, 100, 0);
        Check.due("one that came after the race", over.placeByCounting(1), 1);
    }

    private static void gaps() {
        SparrowRace r = Races.with(40, 999, 0, 10, 999, 0, 20, 999, 1);
        Check.due("nobody flies yet", r.gapAhead(0), 0);
        r.begin();
        Check.due("at the same spot", r.gapAhead(0) + " " + r.gapAhead(1), "400 400");
        Check.due("nobody in the lane", r.gapAhead(2), 0);
        r.pass(1);
        Check.due("the gap", r.gapAhead(1), 30);
        Check.due("the gap round the course", r.gapAhead(0), 370);
        while (r.lapsOf(0) == 0) {
            r.pass(1);
        }
        boolean sameLane = r.laneOf(0) == r.laneOf(1);
        Check.due("still in the lane", sameLane, true);
        int feet = (r.flown(1) + 400 - r.flown(0) % 400) % 400;
        Check.due("also if that has flown a lap fewer", r.gapAhead(0), feet);
    }

    private static void drafting() {
        SparrowRace r = Races.slowInCorner();
        Check.due("not at the same spot", r.isDrafting(1), false);
        r.pass(4);
        Check.due("8 feet behind", r.gapAhead(1) + " " + r.isDrafting(1), "8 true");
        Check.due("not the one ahead", r.isDrafting(0), false);
        SparrowRace nine = Races.begun(20, 999, 0, 11, 999, 0);
        nine.pass(1);
        Check.due("9 feet behind", nine.gapAhead(1) + " " + nine.isDrafting(1), "9 false");
        SparrowRace one = Races.begun(10, 999, 0, 11, 999, 0, 10, 999, 1);
        one.pass(1);
        Check.due("1 foot behind", one.gapAhead(1) + " " + one.isDrafting(1), "1 true");
        SparrowRace waits = Races.with(20, 500, 0);
        Check.badState("isDrafting of one that waits", waits, () -> waits.isDrafting(0));
        waits.begin();
        waits.callIn(0);
        waits.pass(22);
        Check.badState("isDrafting of one that rests", waits, () -> waits.isDrafting(0));
        SparrowRace over = Races.over();
        Check.badState("isDrafting of one that has arrived", over, () -> over.isDrafting(0));
    }

    private static void whereabouts() {
        SparrowRace r = Races.begun(10, 999, 0);
        Check.due("at the start", r.whereIs(0), 0);
        r.pass(6);
        Check.due("at 60", r.whereIs(0), 0);
        r.pass(1);
        Check.due("at 70", r.whereIs(0), 4);
        r.pass(2);
        Check.due("at 90", r.whereIs(0), 4);
        r.pass(1);
        Check.due("at 100", r.whereIs(0), 1);
        r.pass(17);
        Check.due("at 270", r.whereIs(0), 6);
        r.pass(3);
        Check.due("at 300", r.whereIs(0), 3);
        r.pass(9);
        Check.due("at 390", r.whereIs(0), 7);
        r.pass(1);
        Check.due("at 400", r.whereIs(0), 0);
        SparrowRace edge = Races.begun(23, 999, 0);
        edge.pass(3);
        Check.due("at 69", edge.flown(0) + " " + edge.whereIs(0), "69 0");
        Check.due("where one is that waits", Races.with(20, 500, 0).whereIs(0), 0);
    }

    private static void allowance() {
        SparrowRace r = Races.begun(35, 999, 0, 35, 999, 1);
        Check.due("on a straight", r.allowance(0) + " " + r.allowance(1), "35 35");
        r.pass(2);
        Check.due("in a corner", r.allowance(0) + " " + r.allowance(1), "20 22");
        r.setPace(1, 21);
        Check.due("no further than the pace", r.allowance(1), 21);
        r.setLimit(0, 40);
        Check.due("no further than the pace in a wide corner", r.allowance(0), 35);
        r.setLimit(0, 8);
        Check.due("with the least limit", r.allowance(0) + " " + r.allowance(1), "8 10");
        SparrowRace worn = Races.begun(20, 999, 0);
        worn.pass(9);
        Check.due("worn by 9", worn.allowance(0), 20);
        worn.pass(1);
        Check.due("worn by 10", worn.allowance(0), 19);
        SparrowRace waits = Races.with(20, 500, 0);
        Check.badState("allowance of one that waits", waits, () -> waits.allowance(0));
        waits.begin();
        waits.callIn(0);
        waits.pass(22);
        Check.badState("allowance of one that rests", waits, () -> waits.allowance(0));
        SparrowRace over = Races.over();
        Check.badState("allowance of one that has arrived", over, () -> over.allowance(0));
        SparrowRace slow = Races.slowInCorner();
        slow.pass(5);
        Check.due("without regard to others", slow.allowance(1), 20);
        Check.due("without regard to its strength", slow.allowance(0), 40);
    }
}
