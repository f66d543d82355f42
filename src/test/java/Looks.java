import java.util.function.Supplier;

/** What can be seen of a race through its face, and the digest as the document tells it. */
final class Looks {
    private Looks() {
    }

    private static Object orThrown(Supplier<Object> call) {
        try {
            return call.get();
        } catch (IllegalStateException e) {
            return "-";
        }
    }

    private static int or0(Supplier<Integer> call, int more) {
        try {
            return call.get() + more;
        } catch (IllegalStateException | IndexOutOfBoundsException e) {
            return 0;
        }
    }

    /** All but the buffer, the slots and the saved states. */
    static String state(SparrowRace r) {
        StringBuilder s = new StringBuilder();
        s.append(r.sparrows()).append(' ').append(r.isRacing()).append(' ').append(r.seconds()).append(' ')
            .append(r.arrived()).append(' ').append(r.flownByBirds()).append(' ').append(r.flownByAccount())
            .append(' ').append(r.drafts()).append(' ').append(r.changes()).append(' ').append(r.rests())
            .append(' ').append(r.races()).append(' ').append(r.winsInPairs()).append(' ').append(r.meanFlown());
        for (int c = 0; c < 4; c++) {
            s.append(' ').append(r.limitOf(c));
        }
        for (int i = 0; i < r.sparrows(); i++) {
            int b = i;
            s.append("\n").append(r.flown(b)).append(' ').append(r.lapsOf(b)).append(' ').append(r.speedOf(b))
                .append(' ').append(r.strengthOf(b)).append(' ').append(r.wearOf(b)).append(' ')
                .append(r.laneOf(b)).append(' ').append(r.stateOf(b)).append(' ').append(r.paceOf(b)).append(' ')
                .append(orThrown(() -> r.partnerOf(b))).append(' ').append(r.isCalledIn(b)).append(' ')
                .append(r.placeByCounting(b)).append(' ').append(r.birdByOrder(b)).append(' ')
                .append(r.gapAhead(b)).append(' ').append(orThrown(() -> r.isDrafting(b))).append(' ')
                .append(r.whereIs(b)).append(' ').append(orThrown(() -> r.allowance(b))).append(' ')
                .append(orThrown(() -> r.timeOf(b))).append(' ').append(orThrown(() -> r.wouldFly(b, 200)));
        }
        for (int i = 0; i < r.arrived(); i++) {
            s.append(' ').append(r.arrivedAt(i));
        }
        return s.append(' ').append(orThrown(r::secondsToNext)).append(' ').append(orThrown(r::wouldWin)).toString();
    }

    /** The digest tells of the buffer, of the slots and of the saved states as well. */
    static String whole(SparrowRace r) {
        return state(r) + "\n" + r.savedStates() + " " + r.firstError() + " " + r.digest();
    }

    static long digest(SparrowRace r, boolean slot0, boolean slot1, String buffer) {
        long h = 4637;
        h = 31 * h + r.sparrows();
        for (int i = 0; i < r.sparrows(); i++) {
            int b = i;
            int[] values = {r.flown(b), r.lapsOf(b), r.speedOf(b), r.strengthOf(b), r.wearOf(b), r.laneOf(b),
                r.stateOf(b), r.paceOf(b), or0(() -> r.partnerOf(b), 1), r.isCalledIn(b) ? 1 : 0,
                r.placeByCounting(b), r.gapAhead(b), or0(() -> r.isDrafting(b) ? 1 : 0, 0), r.whereIs(b),
                or0(() -> r.allowance(b), 0), or0(() -> r.timeOf(b), 0), or0(() -> r.wouldFly(b, 30), 0)};
            for (int v : values) {
                h = 31 * h + v;
            }
        }
        for (int i = 0; i < r.sparrows(); i++) {
            h = 31 * h + r.birdByOrder(i);
        }
        for (int i = 0; i < 4; i++) {
            h = 31 * h + r.limitOf(i);
        }
        h = 31 * h + or0(r::wouldWin, 1);
        h = 31 * h + or0(r::secondsToNext, 0);
        h = 31 * h + or0(() -> r.bestPace(0), 0);
        h = 31 * h + (r.isRacing() ? 1 : 0);
        h = 31 * h + r.seconds();
        h = 31 * h + r.arrived();
        for (int i = 0; i < r.arrived(); i++) {
            h = 31 * h + r.arrivedAt(i);
        }
        int[] accounts = {r.flownByBirds(), r.flownByAccount(), r.drafts(), r.changes(), r.rests(), r.races(),
            r.winsInPairs(), r.savedStates()};
        for (int v : accounts) {
            h = 31 * h + v;
        }
        h = 31 * h + Double.doubleToLongBits(r.meanFlown());
        h = 31 * h + (slot0 ? 1 : 0);
        h = 31 * h + (slot1 ? 1 : 0);
        h = 31 * h + buffer.length();
        for (char c : buffer.toCharArray()) {
            h = 31 * h + c;
        }
        return h;
    }
}
