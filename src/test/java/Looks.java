import java.util.function.Supplier;

/** What can be seen of a race through its face. */
final class Looks {
    private Looks() {
    }

    private static Object orThrown(Supplier<Object> call) {
        try {
            return call.get();
        } catch (IllegalStateException e) {
            return "-";
        }
    }

    /** All but the buffer, the slots and the saved states. */
    static String state(SparrowRace r) {
        StringBuilder s = new StringBuilder();
        s.append(r.sparrows()).append(' ').append(r.isRacing()).append(' ').append(r.seconds()).append(' ')
            .append(r.arrived()).append(' ').append(r.flownByBirds()).append(' ').append(r.flownByAccount())
            .append(' ').append(r.drafts()).append(' ').append(r.changes()).append(' ').append(r.rests())
            .append(' ').append(r.races()).append(' ').append(r.winsInPairs()).append(' ').append(r.meanFlown());
        for (int c = 0; c < 4; c++) {
            s.append(' ').append(r.limitOf(c));
        }
        for (int i = 0; i < r.sparrows(); i++) {
            int b = i;
            s.append("\n").append(r.flown(b)).append(' ').append(r.lapsOf(b)).append(' ').append(r.speedOf(b))
                .append(' ').append(r.strengthOf(b)).append(' ').append(r.wearOf(b)).append(' ')
                .append(r.laneOf(b)).append(' ').append(r.stateOf(b)).append(' ').append(r.paceOf(b)).append(' ')
                .append(orThrown(() -> r.partnerOf(b))).append(' ').append(r.isCalledIn(b)).append(' ')
                .append(r.placeByCounting(b)).append(' ').append(r.birdByOrder(b)).append(' ')
                .append(r.gapAhead(b)).append(' ').append(orThrown(() -> r.isDrafting(b))).append(' ')
                .append(r.whereIs(b)).append(' ').append(orThrown(() -> r.allowance(b))).append(' ')
                .append(orThrown(() -> r.timeOf(b))).append(' ').append(orThrown(() -> r.wouldFly(b, 200)));
        }
        for (int i = 0; i < r.arrived(); i++) {
            s.append(' ').append(r.arrivedAt(i));
        }
        return s.append(' ').append(orThrown(r::secondsToNext)).append(' ').append(orThrown(r::wouldWin)).toString();
    }

    /** The digest tells of the buffer, of the slots and of the saved states as well. */
    static String whole(SparrowRace r) {
        return state(r) + "\n" + r.savedStates() + " " + r.firstError() + " " + r.digest();
    }
}
