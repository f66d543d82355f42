/** Races in which the tests begin; what they lead to is reckoned by hand from the document. */
final class Races {
    private Races() {
    }

    static SparrowRace with(int... paceStrengthLane) {
        SparrowRace race = new SparrowRace();
        for (int i = 0; i + 2 < paceStrengthLane.length; i += 3) {
            race.enter(paceStrengthLane[i], paceStrengthLane[i + 1], paceStrengthLane[i + 2]);
        }
        return race;
    }

    static SparrowRace begun(int... paceStrengthLane) {
        SparrowRace race = with(paceStrengthLane);
        race.begin();
        return race;
    }

    /** One sparrow of pace 20, that has arrived after one lap, in its second 21. */
    static SparrowRace over() {
        SparrowRace race = with(20, 500, 0);
        race.setLaps(1);
        race.begin();
        race.pass(200);
        return race;
    }

    /**
     * Sparrow 0 has no strength for more than 4 feet from 80 feet on (in the corner 0) and is in
     * the way of sparrow 1, which comes to 91 feet in the second 5 and is in its draft then.
     */
    static SparrowRace slowInCorner() {
        SparrowRace race = with(40, 100, 0, 20, 999, 0);
        race.setLimit(0, 40);
        race.begin();
        return race;
    }

    static void type(SparrowRace race, String text) {
        race.clearBuffer();
        for (char c : text.toCharArray()) {
            race.append(c);
        }
    }
}
