import java.math.BigInteger;

/** The digest once more, from what the calls answer, in whole numbers: at the end the lowest 64 bits are taken. */
final class Digests {
    private static final int NONE = -1;

    private BigInteger h = BigInteger.valueOf(17);

    Digests mix(long... values) {
        for (long v : values) {
            h = h.multiply(BigInteger.valueOf(31)).add(BigInteger.valueOf(v));
        }
        return this;
    }

    long wrapped() {
        return h.longValue();
    }

    /** In the order of promise 38. */
    static long ofAnswers(DollsAhead x) {
        Digests all = new Digests();
        for (int what = 0; what <= 7; what++) {
            all.mix(x.count(what));
        }
        all.mix(x.fault(0), x.fault(1));
        for (int d = 0; d < x.count(0); d++) {
            all.mix(x.door(d, 0), x.door(d, 1));
        }
        for (int room = 0; room <= 7; room++) {
            all.mix(x.empty(room), x.far(9, room, 0), x.far(23, room, 5));
        }
        for (int p = 0; p < x.count(1); p++) {
            all.mix(x.person(p, 0), x.person(p, 1), x.person(p, 2));
            for (int hour : new int[] {0, 5, 12, 23}) {
                all.mix(x.at(hour, p, 0), x.at(hour, p, 1));
            }
            all.mix(x.sleep(p, 0), x.sleep(p, 1), x.was(p, 0), x.was(p, 1), x.ask(p));
            all.mix(x.chance(5, p, 14, 0), x.chance(5, p, 14, 1));
            all.mix(p == 0 ? 0 : x.meet(0, p));
        }
        all.mix(x.found(0), x.found(1), x.found(2), x.crowd(0), x.crowd(1), x.crowd(2), x.alone());
        all.mix(x.nice(8, 0), x.nice(8, 1), x.lens(0), x.lens(1), x.spare(NONE), x.spare(0), x.never());
        return all.mix(x.weeks(7, 6, 0), x.weeks(7, 6, 1)).wrapped();
    }
}
