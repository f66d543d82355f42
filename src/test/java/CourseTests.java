/** Promises 6 to 9, and how a second goes by. */
final class CourseTests {
    private CourseTests() {
    }

    static void run() {
        setLimit();
        setLaps();
        begin();
        pass();
        passRefused();
        corners();
        wearOnTheWay();
        leastFeet();
        weakness();
        strengthGivenUp();
        slowInCorner();
        draftOnStraight();
        laneIsTaken();
        nearLimits();
        asFarAhead();
        nest();
        nestIsInNobodysWay();
        arrival();
    }

    private static String row(SparrowRace r, int bird) {
        return r.flown(bird) + " " + r.speedOf(bird) + " " + r.strengthOf(bird) + " " + r.wearOf(bird)
            + " " + r.laneOf(bird) + " " + r.stateOf(bird);
    }

    private static void setLimit() {
        SparrowRace r = Races.with(40, 999, 0);
        Check.due("setLimit 3", r.setLimit(3, 8), 20);
        Check.due("setLimit 3 again", r.setLimit(3, 40), 8);
        Check.due("limitOf 3", r.limitOf(3), 40);
        Check.due("limitOf 2", r.limitOf(2), 20);
        Check.undoable("setLimit", r, () -> r.setLimit(0, 11));
        Check.noBird("setLimit 4", r, () -> r.setLimit(4, 20));
        Check.noBird("setLimit -1, wrong", r, () -> r.setLimit(-1, 7));
        Check.badArgument("setLimit 7", r, () -> r.setLimit(0, 7));
        Check.badArgument("setLimit 41", r, () -> r.setLimit(0, 41));
        r.begin();
        Check.due("limits stay in a race", r.limitOf(0), 11);
        r.pass(3);
        Check.due("flown with the limit", r.flown(0), 91);
        Check.due("setLimit in a race", r.setLimit(0, 12), 11);
    }

    private static void setLaps() {
        SparrowRace r = Races.with(20, 500, 0);
        Check.due("setLaps", r.setLaps(9), 2);
        Check.undoable("setLaps", r, () -> r.setLaps(1));
        Check.due("setLaps back", r.setLaps(1), 1);
        Check.badArgument("setLaps 0", r, () -> r.setLaps(0));
        Check.badArgument("setLaps 10", r, () -> r.setLaps(10));
        r.begin();
        Check.badState("setLaps in a race", r, () -> r.setLaps(3));
        Check.badArgument("setLaps in a race, wrong", r, () -> r.setLaps(10));
        r.pass(200);
        Check.due("flown in one lap", r.flown(0), 400);
        Check.due("setLaps after a race", r.setLaps(2), 1);
        Check.due("what was flown stays", r.flown(0), 400);
        Check.due("its laps stay", r.lapsOf(0), 1);
        Check.due("the race stays over", r.isRacing(), false);
    }

    private static void begin() {
        SparrowRace none = new SparrowRace();
        Check.badState("begin without sparrows", none, none::begin);
        SparrowRace r = Races.slowInCorner();
        Check.due("races", r.races(), 1);
        r.pair(0, 1);
        r.callIn(0);
        r.pass(9);
        Check.due("lane of 1 before", r.laneOf(1), 1);
        Check.undoable("begin in a race", r, r::begin);
        Check.due("0 at the start", row(r, 0), "0 0 100 0 0 1");
        Check.due("1 at the start", row(r, 1), "0 0 999 0 0 1");
        Check.due("0 is called in no longer", r.isCalledIn(0), false);
        Check.due("races then", r.races(), 2);
        Check.due("seconds then", r.seconds(), 0);
        Check.due("drafts then", r.drafts(), 0);
        Check.due("changes then", r.changes(), 0);
        Check.due("account then", r.flownByAccount(), 0);
        Check.due("the pair stays", r.partnerOf(1), 0);
        Check.due("the limit stays", r.limitOf(0), 40);
        SparrowRace over = Races.over();
        over.enter(30, 700, 1);
        Check.due("begin after a race", over.begin(), 2);
        Check.due("none has arrived", over.arrived(), 0);
        Check.due("they fly", over.stateOf(0) + " " + over.stateOf(1), "1 1");
        Check.due("the strength is that of the start", over.strengthOf(0), 500);
        Check.badState("no time of the race before", over, () -> over.timeOf(0));
    }

    private static void pass() {
        SparrowRace r = Races.begun(20, 999, 0);
        Check.due("pass 1", r.pass(1), 0);
        Check.due("after 1", row(r, 0), "20 20 988 1 0 1");
        Check.undoable("pass", r, () -> r.pass(9));
        Check.due("after 10", row(r, 0), "200 20 889 10 0 1");
        r.pass(1);
        Check.due("after 11", row(r, 0), "219 19 879 11 0 1");
        Check.due("seconds", r.seconds(), 11);
        Check.due("pass to the end", r.pass(200), 1);
        Check.due("it has arrived", r.stateOf(0), 3);
        Check.due("no more seconds go by", r.seconds(), r.timeOf(0));
        SparrowRace two = Races.with(20, 999, 0, 40, 999, 1);
        two.setLaps(1);
        two.begin();
        Check.due("pass 20", two.pass(20), 1);
        Check.due("pass 1 to the other's arrival", two.pass(1), 1);
    }

    private static void passRefused() {
        SparrowRace r = Races.with(20, 999, 0);
        Check.badState("pass without a race", r, () -> r.pass(1));
        Check.badArgument("pass 0 without a race", r, () -> r.pass(0));
        r.begin();
        Check.badArgument("pass 0", r, () -> r.pass(0));
        Check.badArgument("pass 201", r, () -> r.pass(201));
        Check.badArgument("pass -1", r, () -> r.pass(-1));
        SparrowRace over = Races.over();
        Check.badState("pass after a race", over, () -> over.pass(1));
    }

    private static void corners() {
        SparrowRace r = Races.begun(40, 999, 0, 40, 999, 1);
        r.pass(2);
        Check.due("0 to the corner", row(r, 0), "80 40 917 2 0 1");
        Check.due("0 may fly", r.allowance(0), 20);
        Check.due("1 may fly outside", r.allowance(1), 22);
        r.pass(1);
        Check.due("0 through the corner", row(r, 0), "100 20 906 3 0 1");
        Check.due("1 through the corner", row(r, 1), "102 22 904 3 1 1");
        r.pass(1);
        Check.due("0 behind the corner", r.speedOf(0), 40);
        SparrowRace slow = Races.with(10, 999, 1);
        slow.setLimit(0, 9);
        slow.begin();
        slow.pass(7);
        Check.due("no further than its pace outside", slow.allowance(0), 10);
        slow.setLimit(0, 8);
        slow.setPace(0, 40);
        Check.due("2 feet more outside", slow.allowance(0), 10);
    }

    private static void wearOnTheWay() {
        SparrowRace r = Races.begun(15, 999, 0);
        r.pass(10);
        Check.due("15 feet wear", r.wearOf(0), 10);
        r.pass(10);
        Check.due("14 feet do not", r.wearOf(0), 10);
        Check.due("a tenth less", r.speedOf(0), 14);
        SparrowRace slow = Races.begun(14, 999, 0);
        slow.pass(10);
        Check.due("no wear", row(slow, 0), "140 14 949 0 0 1");
    }

    private static void leastFeet() {
        SparrowRace r = Races.with(24, 999, 0);
        r.setLaps(9);
        r.setLimit(0, 40);
        r.setLimit(1, 40);
        r.setLimit(2, 40);
        r.setLimit(3, 40);
        r.begin();
        for (int second = 0; second < 105; second++) {
            r.setPace(0, 15 + (r.wearOf(0) + 9) / 10);
            r.pass(1);
        }
        Check.due("worn, at most 100", r.wearOf(0), 100);
        r.setPace(0, 10);
        Check.due("10 less the wear, at least 4", r.allowance(0), 4);
        r.setPace(0, 40);
        Check.due("40 less the wear", r.allowance(0), 30);
    }

    private static void weakness() {
        SparrowRace r = Races.begun(40, 100, 0);
        r.pass(2);
        Check.due("with strength", row(r, 0), "80 40 18 2 0 1");
        r.pass(1);
        Check.due("with enough for the corner", row(r, 0), "100 20 7 3 0 1");
        r.pass(1);
        Check.due("without", row(r, 0), "104 4 7 3 0 1");
        r.pass(10);
        Check.due("still without", row(r, 0), "144 4 7 3 0 1");
    }

    /** Needs just what it has: 12 feet need 144 / 40 + 1 = 4, and 25 times that is all. */
    private static void strengthGivenUp() {
        SparrowRace r = Races.begun(12, 100, 0);
        r.pass(24);
        Check.due("4 left", row(r, 0), "288 12 4 0 0 1");
        r.pass(1);
        Check.due("none left", row(r, 0), "300 12 0 0 0 1");
        r.pass(1);
        Check.due("weak", row(r, 0), "304 4 0 0 0 1");
    }

    private static void slowInCorner() {
        SparrowRace r = Races.slowInCorner();
        r.pass(4);
        Check.due("0 after 4", row(r, 0), "88 4 18 2 0 1");
        Check.due("1 after 4", row(r, 1), "80 20 955 4 0 1");
        r.pass(1);
        Check.due("1 stays 1 foot behind", row(r, 1), "91 11 951 4 0 1");
        Check.due("not from a draft", r.drafts(), 0);
        r.pass(1);
        Check.due("1 in the draft", row(r, 1), "95 4 951 4 0 1");
        Check.due("a draft", r.drafts(), 1);
        r.pass(2);
        Check.due("1 in the draft at 99", row(r, 1), "103 4 951 4 0 1");
        Check.due("no change in the corner", r.changes(), 0);
        r.pass(1);
        Check.due("1 changes behind the corner", row(r, 1), "124 21 944 5 1 1");
        Check.due("a change", r.changes(), 1);
        Check.due("four drafts", r.drafts(), 4);
        SparrowRace paired = Races.slowInCorner();
        paired.pair(0, 1);
        paired.pass(9);
        Check.due("2 feet further behind its partner", row(paired, 1), "125 22 944 5 1 1");
    }

    private static void draftOnStraight() {
        SparrowRace r = Races.begun(40, 100, 0, 10, 999, 0);
        r.pass(14);
        Check.due("0 after 14", r.flown(0), 144);
        Check.due("1 after 14", row(r, 1), "140 10 957 0 0 1");
        Check.due("gap", r.gapAhead(1), 4);
        Check.due("1 is drafting", r.isDrafting(1), true);
        r.pass(1);
        Check.due("the draft holds for the change", row(r, 1), "151 11 955 0 1 1");
        Check.due("drafts", r.drafts(), 1);
    }

    /** At the start sparrow 2 is beside sparrow 1, a second later 11 feet ahead of it. */
    private static void laneIsTaken() {
        SparrowRace r = Races.begun(10, 999, 0, 20, 999, 0, 10, 999, 1);
        r.pass(1);
        Check.due("1 stays in its lane", row(r, 1), "9 9 996 0 0 1");
        Check.due("no change yet", r.changes(), 0);
        r.pass(1);
        Check.due("1 changes and stays behind 2", row(r, 1), "19 10 993 0 1 1");
        Check.due("a change", r.changes(), 1);
    }

    private static void nearLimits() {
        SparrowRace near = Races.begun(14, 999, 0, 13, 999, 0);
        near.pass(1);
        Check.due("as near as 1 foot is too near", near.speedOf(1) + " " + near.laneOf(1), "13 1");
        SparrowRace free = Races.begun(15, 999, 0, 13, 999, 0);
        free.pass(1);
        Check.due("2 feet are not", free.speedOf(1) + " " + free.laneOf(1), "13 0");
        for (int off = 0; off <= 5; off++) {
            SparrowRace r = Races.begun(16, 999, 0, 15, 999, 0, 15 - off, 999, 1);
            r.pass(1);
            r.setPace(0, 10);
            r.setPace(1, 20);
            Check.due("beside at the start, so 1 stays", row(r, 1), "15 15 993 1 0 1");
            r.pass(1);
            Check.due("2 is " + off + " feet behind 1", r.laneOf(1), off <= 3 ? 0 : 1);
        }
    }

    /**
     * At the end the sparrows 0 and 2 have left their nests in one second, in one lane; the one
     * of the lower number counts as the next one ahead of sparrow 1, and that is its partner.
     */
    private static void asFarAhead() {
        SparrowRace r = Races.with(25, 619, 1, 31, 968, 1, 24, 853, 0, 23, 897, 0);
        r.pair(1, 0);
        r.setLaps(9);
        r.setLimit(3, 8);
        r.begin();
        r.pass(18);
        int[] thenCalled = {0, 1, -1, 1, 2, -1, 0, -1, 2, 0, 1};
        int[] thenPass = {0, 14, 15, 2, 1, 23, 13, 13, 14, 0, 1};
        for (int i = 0; i < thenPass.length; i++) {
            if (thenCalled[i] >= 0) {
                r.callIn(thenCalled[i]);
            }
            if (thenPass[i] > 0) {
                r.pass(thenPass[i]);
            }
        }
        Check.due("1 flies 2 feet further", r.flown(1), 1999);
    }

    private static void nest() {
        SparrowRace r = Races.begun(20, 500, 0);
        r.callIn(0);
        r.pass(20);
        Check.due("ahead of the nest", row(r, 0), "390 19 290 20 0 1");
        Check.due("no rest yet", r.rests(), 0);
        r.pass(1);
        Check.due("in the nest", row(r, 0), "400 10 581 0 0 2");
        Check.due("a rest", r.rests(), 1);
        Check.due("account", r.flownByAccount(), 400);
        r.pass(11);
        Check.due("still in the nest", row(r, 0), "400 0 581 0 0 2");
        r.pass(1);
        Check.due("out of the nest", row(r, 0), "400 0 581 0 0 1");
        r.pass(1);
        Check.due("on its way", row(r, 0), "420 20 570 1 0 1");
        SparrowRace strong = Races.begun(20, 999, 0);
        strong.callIn(0);
        strong.pass(21);
        Check.due("at most 999", strong.strengthOf(0), 999);
        SparrowRace on = Races.begun(20, 500, 0);
        on.pass(21);
        Check.due("one that is not called in flies on", row(on, 0), "408 18 281 21 0 1");
        Check.due("its lap is over", on.lapsOf(0), 1);
    }

    private static void nestIsInNobodysWay() {
        SparrowRace r = Races.begun(20, 500, 0, 20, 500, 1);
        r.callIn(0);
        Check.due("in the other lane", r.gapAhead(0), 0);
        r.pass(21);
        SparrowRace same = Races.begun(40, 999, 0, 10, 999, 0);
        Check.due("as far, 400 feet", same.gapAhead(1), 400);
        same.callIn(0);
        while (same.stateOf(0) != 2) {
            same.pass(1);
        }
        Check.due("nobody ahead of 1", same.gapAhead(1), 0);
        Check.due("1 ahead of the nest of 0", same.gapAhead(0), same.flown(1));
    }

    private static void arrival() {
        SparrowRace r = Races.with(20, 500, 0, 20, 500, 1);
        r.setLaps(1);
        r.begin();
        r.callIn(1);
        r.pass(20);
        Check.due("both arrive", r.pass(2), 2);
        Check.due("0 has arrived", row(r, 0), "400 10 281 21 0 3");
        Check.due("1 has arrived", row(r, 1), "400 10 281 21 1 3");
        Check.due("1 stays called in", r.isCalledIn(1), true);
        Check.due("none rests", r.rests(), 0);
        Check.due("seconds", r.seconds(), 21);
        Check.due("time", r.timeOf(1), 21);
        Check.due("0 arrived first", r.arrivedAt(0), 0);
        SparrowRace early = Races.with(40, 999, 0, 10, 999, 0);
        early.setLaps(1);
        early.begin();
        early.pass(30);
        Check.due("an arrived one is in nobody's way", early.gapAhead(1), 0);
        Check.due("it flies no more", early.speedOf(0), 0);
        Check.due("the race goes on", early.isRacing(), true);
    }
}
