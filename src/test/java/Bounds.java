import java.util.function.ToIntBiFunction;
import java.util.function.ToIntFunction;

/** Tests of the document's sentences: what is wrong is told with the sentence that it breaks. */
final class Bounds {
    static final int BAD = CellDays.BAD, STATE = CellDays.STATE, FULL = CellDays.FULL, NONE = CellDays.NONE;

    private final Due due = new Due();
    private String sentence = "";

    void sentence(String text, Runnable test) {
        sentence = text;
        test.run();
    }

    /** Lays an answer against the one that is due; the call is the one made last. */
    void is(long want, long got) {
        due.is("'" + sentence + "': " + Probe.latest(), want, got);
    }

    void same(String what, String want, String got) {
        due.same("'" + sentence + "': " + what, want, got);
    }

    void holds(String what, boolean does) {
        due.holds("'" + sentence + "': " + what, does);
    }

    /** The call is refused, and nothing has changed: the object shows what one shows that was never called so. */
    void refused(Probe x, int want, ToIntFunction<Probe> made) {
        Probe called = x.again();
        is(want, made.applyAsInt(called));
        String call = Probe.latest();
        same("state behind " + call, x.again().seen(), called.seen());
    }

    /** Refused on both sides: next to the bounds, far off, and where a narrower number would wrap into them. */
    void outside(Probe x, int least, int most, ToIntBiFunction<Probe, Integer> made) {
        int[] beyond = {
            least - 1, most + 1, -most - 1, least - 65536, most + 65536, most + 1000000,
            Integer.MIN_VALUE, Integer.MIN_VALUE + least, Integer.MAX_VALUE
        };
        for (int v : beyond) {
            refused(x, BAD, y -> made.applyAsInt(y, v));
        }
    }

    void end() {
        due.end();
    }

    /** A cell of 1000 thousandths that loses nothing by itself. */
    static Probe small() {
        return sized(1);
    }

    /** A cell of so much room that loses nothing by itself. */
    static Probe sized(int room) {
        Probe x = new Probe();
        x.set(0, room);
        x.set(1, 0);
        return x;
    }

    /** Nothing in it is as it was at first, so that whatever a refused call spoils shows. */
    static Probe used() {
        Probe x = new Probe();
        x.set(0, 30);
        x.set(1, 3);
        x.set(2, 20);
        x.shares(95, 60, 30);
        x.season(5, 2 + 9 + 81);
        x.duty(0, 30, 2, 0, 0, 4);
        x.duty(1, 20, 3, 40, 0, 9);
        x.duty(2, 10, 2, 30, 3, 7);
        x.duty(2, 11, 1, 5, 4, 2);
        x.on(1, false);
        x.drain(2, 2);
        x.sign(0, 9);
        x.sign(41, 5);
        x.sign(13, 8);
        return x;
    }

    /** As used, with all places taken by duties. */
    static Probe fullOfDuties() {
        Probe x = used();
        for (int i = 4; i < 8; i++) {
            x.duty(i % 3, i, 1, i, 2, i);
        }
        return x;
    }

    /** As used, with all places taken by signs. */
    static Probe fullOfSigns() {
        Probe x = used();
        for (int i = 3; i < 12; i++) {
            x.sign(i % 3, 9);
        }
        return x;
    }
}
