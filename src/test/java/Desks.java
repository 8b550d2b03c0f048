/** Desks with which several tests begin. */
final class Desks {
    private Desks() {
    }

    /** PLACE 0 is STEPPED and has these STEPS; it STANDS on NONE. */
    static LadderDesk ladder(int... steps) {
        LadderDesk d = new LadderDesk();
        d.make(0, Check.STEPPED, 1, 0);
        lay(d, 0, steps);
        return d;
    }

    static void lay(LadderDesk d, int place, int... steps) {
        d.row(place, steps.length);
        for (int i = 0; i < steps.length; i++) {
            d.step(place, i, steps[i]);
        }
    }

    /** PLACE 0 is a TRIAL of WAYS 0 and 1. */
    static LadderDesk trial(int part, int looks) {
        LadderDesk d = new LadderDesk();
        d.make(0, Check.TRIAL, 1, 0);
        d.trial(0, 0, 1, part, looks);
        return d;
    }

    /** COUNTS of the SWITCH at PLACE 0. */
    static void tell(LadderDesk d, int way, int minute, int calls, int goods) {
        tell(d, 0, way, minute, calls, goods);
    }

    static void tell(LadderDesk d, int place, int way, int minute, int calls, int goods) {
        d.count(place, way, minute, calls, 0);
        d.goods(place, way, minute, goods);
    }
}
