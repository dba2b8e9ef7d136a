/** Boundary sentences of the duties: duty, on, drop, drain, and the trace. Each has a test of its own. */
public final class DutyBoundsTests {
    private static final int BAD = CellDays.BAD, STATE = CellDays.STATE, FULL = CellDays.FULL;
    private static final int STEADY = 0, BURST = 1, TRY = 2;
    private static final int[] KINDS = {STEADY, BURST, TRY};
    private static final Bounds B = new Bounds();

    private static void duties8AtMost() {
        Probe x = new Probe();
        for (int i = 0; i < 8; i++) {
            B.is(i, x.duty(i % 3, 1, 1, 0, 1, 0));
            B.is(i + 1, x.count(0));
        }
        for (int kind : KINDS) B.refused(x, FULL, y -> y.duty(kind, 1, 1, 0, 1, 0));
        for (int kind : KINDS) B.refused(Bounds.fullOfDuties(), FULL, y -> y.duty(kind, 100, 20, 100, 5, 100));
        Probe off = x.again();
        for (int i = 0; i < 8; i++) off.on(i, false);
        B.refused(off, FULL, y -> y.duty(0, 1, 1, 0, 1, 0));
    }

    private static void placeOfADroppedDuty() {
        Probe x = Bounds.fullOfDuties();
        B.is(7, x.drop());
        B.is(7, x.duty(0, 9, 9, 0, 0, 9));
        B.is(81, x.drain(7, 1));
        B.refused(x, FULL, y -> y.duty(0, 9, 9, 0, 0, 9));
    }

    private static void badAheadOfFull() {
        Probe x = Bounds.fullOfDuties();
        int[][] wrong = {
            {-1, 1, 1, 1, 1, 1}, {3, 1, 1, 1, 1, 1}, {0, 0, 1, 1, 1, 1}, {0, 101, 1, 1, 1, 1},
            {0, 1, 0, 1, 1, 1}, {0, 1, 21, 1, 1, 1}, {1, 1, 1, -1, 1, 1}, {1, 1, 1, 101, 1, 1},
            {2, 1, 1, -1, 1, 1}, {2, 1, 1, 101, 1, 1}, {2, 1, 1, 1, 0, 1}, {2, 1, 1, 1, 6, 1},
            {0, 1, 1, 1, 1, -1}, {0, 1, 1, 1, 1, 101},
        };
        for (int[] w : wrong) B.refused(x, BAD, y -> y.duty(w[0], w[1], w[2], w[3], w[4], w[5]));
    }

    private static void kinds() {
        for (int kind : KINDS) B.is(0, new Probe().duty(kind, 1, 1, 0, 1, 0));
        B.outside(Bounds.used(), 0, 2, (y, kind) -> y.duty(kind, 1, 1, 1, 1, 1));
    }

    private static void loadBounds() {
        for (int kind : KINDS) {
            Probe x = new Probe();
            B.is(0, x.duty(kind, 1, 3, 0, 1, 0));
            B.is(3, x.drain(0, 1));
            B.is(1, x.duty(kind, 100, 3, 0, 1, 0));
            B.is(300, x.drain(1, 1));
            B.outside(Bounds.used(), 1, 100, (y, load) -> y.duty(kind, load, 3, 0, 1, 0));
        }
    }

    private static void timesBounds() {
        for (int kind : KINDS) {
            Probe x = new Probe();
            B.is(0, x.duty(kind, 7, 1, 0, 1, 0));
            B.is(7, x.drain(0, 1));
            B.is(1, x.duty(kind, 7, 20, 0, 1, 0));
            B.is(140, x.drain(1, 1));
            B.outside(Bounds.used(), 1, 20, (y, times) -> y.duty(kind, 7, times, 0, 1, 0));
        }
    }

    private static void peakBounds() {
        for (int kind = BURST; kind <= TRY; kind++) {
            int one = kind;
            Probe x = new Probe();
            x.set(2, 500);
            B.is(0, x.duty(kind, 1, 1, 0, 1, 0));
            B.is(1, x.drain(0, 1));
            B.is(1, x.duty(kind, 1, 1, 100, 1, 0));
            B.is(101, x.drain(1, 1));
            B.outside(Bounds.used(), 0, 100, (y, peak) -> y.duty(one, 1, 1, peak, 1, 0));
        }
    }

    private static void triesBounds() {
        Probe x = new Probe();
        B.is(0, x.duty(TRY, 1, 1, 0, 1, 0));
        B.is(1, x.drain(0, 1));
        B.is(1, x.duty(TRY, 1, 1, 0, 5, 0));
        B.is(5, x.drain(1, 5));
        B.outside(Bounds.used(), 1, 5, (y, tries) -> y.duty(TRY, 1, 1, 0, tries, 0));
    }

    private static void worthBounds() {
        for (int kind : KINDS) {
            Probe x = new Probe();
            B.is(0, x.duty(kind, 1, 1, 0, 1, 0));
            B.is(0, x.plan(1, 1));
            B.is(1, x.duty(kind, 1, 1, 0, 1, 100));
            B.is(100, x.plan(1, 1));
            B.outside(Bounds.used(), 0, 100, (y, worth) -> y.duty(kind, 1, 1, 0, 1, worth));
        }
    }

    private static void peakOfSteadyIsNotLookedAt() {
        for (int peak : new int[] {-1, 101, 60, 0, Integer.MIN_VALUE, Integer.MAX_VALUE}) {
            Probe x = Bounds.small();
            B.is(0, x.duty(STEADY, 10, 1, peak, 1, 0));
            B.is(10, x.drain(0, 1));
            B.is(100, x.life(5));
        }
    }

    private static void triesOfOthersAreNotLookedAt() {
        for (int kind = STEADY; kind <= BURST; kind++) {
            for (int tries : new int[] {-1, 0, 1, 2, 5, 6, Integer.MIN_VALUE, Integer.MAX_VALUE}) {
                Probe x = Bounds.small();
                B.is(0, x.duty(kind, 10, 1, 0, tries, 0));
                for (int t = 1; t <= 5; t++) {
                    B.is(10, x.drain(0, t));
                    B.is(100, x.life(t));
                }
            }
        }
    }

    private static void onAtFirst() {
        Probe x = Bounds.small();
        x.steady(10, 1);
        B.is(1, x.count(1));
        B.is(100, x.life(1));
        B.is(1, x.on(0, true));
        Probe y = Bounds.small();
        y.steady(10, 1);
        y.on(0, false);
        y.drop();
        y.steady(10, 1);
        B.is(1, y.count(1));
        B.is(1, y.on(0, false));
    }

    private static void onAndOffAgain() {
        Probe x = Bounds.small();
        x.steady(100, 1);
        x.steady(50, 1);
        B.is(1, x.on(0, false));
        B.is(20, x.life(1));
        B.is(0, x.on(0, false));
        B.is(1, x.count(1));
        B.is(0, x.on(0, true));
        B.is(1, x.on(0, true));
        B.is(2, x.count(1));
        B.is(6, x.life(1));
        B.is(1, x.on(1, false));
        B.is(10, x.life(1));
        B.is(1, x.on(0, false));
        B.is(0, x.count(1));
        B.is(400, x.life(1));
        B.is(2, x.count(0));
    }

    private static void onOfNoSuchDuty() {
        for (boolean is : new boolean[] {true, false}) {
            for (int i : new int[] {-1, 0, 7, 8, 31, 32}) B.refused(new Probe(), BAD, y -> y.on(i, is));
            B.outside(Bounds.used(), 0, 3, (y, i) -> y.on(i, is));
            B.outside(Bounds.fullOfDuties(), 0, 7, (y, i) -> y.on(i, is));
            B.refused(Bounds.used(), BAD, y -> y.on(32, is));
            Probe dropped = Bounds.used();
            dropped.drop();
            B.refused(dropped, BAD, y -> y.on(3, is));
        }
        Probe full = Bounds.fullOfDuties();
        B.is(1, full.on(0, true));
        B.is(0, full.on(1, true));
        B.is(1, full.on(7, true));
    }

    private static void dropOfNone() {
        B.refused(new Probe(), STATE, Probe::drop);
        Probe x = Bounds.fullOfDuties();
        for (int left = 7; left >= 0; left--) B.is(left, x.drop());
        B.refused(x, STATE, Probe::drop);
        B.is(0, x.steady(1, 1));
        B.is(0, x.drop());
        B.is(STATE, x.drop());
        B.is(STATE, x.drop());
        B.is(0, x.count(0));
    }

    private static void dropOfTheLatest() {
        Probe x = Bounds.small();
        x.steady(1, 1);
        x.steady(10, 1);
        x.steady(100, 1);
        B.is(2, x.drop());
        B.is(BAD, x.drain(2, 1));
        B.is(10, x.drain(1, 1));
        B.is(1, x.drop());
        B.is(BAD, x.drain(1, 1));
        B.is(1, x.drain(0, 1));
        B.is(0, x.drop());
        B.is(BAD, x.drain(0, 1));
        Probe off = Bounds.small();
        off.steady(1, 1);
        off.steady(10, 1);
        off.on(0, false);
        B.is(1, off.drop());
        B.is(0, off.count(1));
        B.is(0, off.on(0, true));
    }

    private static void drainTries() {
        for (int kind = STEADY; kind <= BURST; kind++) {
            Probe x = Bounds.used();
            x.duty(kind, 3, 4, 0, 1, 0);
            for (int t = 1; t <= 5; t++) B.is(12, x.drain(4, t));
            B.outside(x, 1, 5, (y, t) -> y.drain(4, t));
        }
    }

    private static void drainTriesOfATry() {
        for (int tries = 1; tries <= 5; tries++) {
            Probe x = Bounds.used();
            x.duty(TRY, 3, 4, 0, tries, 0);
            for (int t = 1; t <= tries; t++) B.is(12L * t, x.drain(4, t));
            B.outside(x, 1, tries, (y, t) -> y.drain(4, t));
        }
    }

    private static void drainOfNoSuchDuty() {
        for (int i : new int[] {-1, 0, 7, 8}) B.refused(new Probe(), BAD, y -> y.drain(i, 1));
        B.outside(Bounds.used(), 0, 3, (y, i) -> y.drain(i, 1));
        B.outside(Bounds.fullOfDuties(), 0, 7, (y, i) -> y.drain(i, 1));
        B.refused(Bounds.used(), BAD, y -> y.drain(4, 6));
    }

    private static void drainOfOneThatIsOff() {
        Probe x = Bounds.used();
        B.is(60, x.drain(0, 1));
        B.is(120, x.drain(1, 1));
        x.on(0, false);
        x.on(1, true);
        B.is(60, x.drain(0, 1));
        B.is(120, x.drain(1, 1));
    }

    private static void peakAtTheBar() {
        for (int kind = BURST; kind <= TRY; kind++) {
            Probe x = new Probe();
            int[][] rows = {{0, 0}, {49, 49}, {50, 50}, {51, 52}, {52, 54}, {100, 150}};
            for (int[] row : rows) {
                B.is(0, x.duty(kind, 6, 2, row[0], 1, 0));
                B.is(12 + row[1], x.drain(0, 1));
                x.drop();
            }
        }
    }

    private static void barAtThePeak() {
        for (int kind = BURST; kind <= TRY; kind++) {
            Probe x = new Probe();
            x.duty(kind, 6, 2, 99, 1, 0);
            int[][] rows = {{1, 98}, {98, 1}, {99, 0}, {100, 0}, {500, 0}};
            for (int[] row : rows) {
                x.set(2, row[0]);
                B.is(12 + 99 + row[1], x.drain(0, 1));
            }
        }
    }

    private static void tryTakesAllOfUpTimesT() {
        Probe x = new Probe();
        x.duty(TRY, 6, 2, 60, 5, 0);
        for (int t = 1; t <= 5; t++) B.is((12 + 60 + 10) * t, x.drain(0, t));
        Probe most = new Probe();
        most.set(2, 1);
        most.duty(TRY, 100, 20, 100, 5, 0);
        B.is((2000 + 100 + 99) * 5, most.drain(0, 5));
        Probe least = new Probe();
        least.duty(TRY, 1, 1, 0, 1, 0);
        B.is(1, least.drain(0, 1));
    }

    private static void traceOfEachKind() {
        int[] asked = {1, 11, 111};
        for (int kind : KINDS) {
            Probe x = new Probe();
            x.duty(kind, 1, 1, 60, 5, 0);
            for (int t = 1; t <= 5; t++) {
                x.drain(0, t);
                B.is(asked[kind] * t, x.trace());
            }
        }
    }

    private static void traceOnlyByDrain() {
        Probe x = Bounds.used();
        B.is(111, x.trace());
        for (int t = 1; t <= 5; t++) x.life(t);
        x.charge(399, 5);
        for (int i = 0; i < 4; i++) x.price(i);
        for (int i = 0; i < 3; i++) x.plan(1, i);
        for (int i = 0; i < 4; i++) x.field(i);
        x.level(149, 399);
        x.agrees(149);
        for (int i = 0; i < 6; i++) x.count(i);
        x.share(0);
        x.trace();
        B.is(111, x.trace());
        x.on(0, false);
        x.duty(0, 1, 1, 0, 0, 0);
        x.drop();
        x.forget();
        x.set(2, 5);
        B.is(111, x.trace());
        for (int i = 0; i < 4; i++) x.drop();
        B.is(111, x.trace());
    }

    private static void traceOfRefusedDrains() {
        Probe x = Bounds.used();
        for (int i = -1; i <= 4; i++) {
            x.drain(i, 0);
            x.drain(i, 6);
        }
        x.drain(2, 4);
        x.drain(3, 5);
        x.drain(-1, 1);
        x.drain(4, 1);
        B.is(111, x.trace());
    }

    /** The last call that is promised anything still answers as the first. */
    private static void the512thCall() {
        Probe x = new Probe();
        x.duty(TRY, 1, 1, 0, 5, 0);
        for (int i = 2; i < Probe.MOST_CALLS; i++) x.drain(0, 5);
        B.is(510 * 111, x.trace());
        B.is(Probe.MOST_CALLS, x.calls());
        Probe y = new Probe();
        for (int i = 0; i < 255; i++) {
            B.is(0, y.duty(TRY, 1, 1, 0, 5, i % 101));
            B.is(0, y.drop());
        }
        B.is(0, y.duty(STEADY, 1, 1, 0, 5, 100));
        B.is(100, y.plan(400, 1));
        B.is(Probe.MOST_CALLS, y.calls());
        Probe z = new Probe();
        for (int i = 0; i < 255; i++) {
            B.is(1, z.sign(i, 9));
            B.is(0, z.forget());
        }
        B.is(1, z.sign(0, 9));
        B.is(150, z.field(0));
        B.is(Probe.MOST_CALLS, z.calls());
    }

    public static void main(String[] args) {
        B.sentence("DUTIES (8 at most); FULL", DutyBoundsTests::duties8AtMost);
        B.sentence("A DUTY: its number", DutyBoundsTests::placeOfADroppedDuty);
        B.sentence("Refused, the first of these: BAD, STATE, FULL", DutyBoundsTests::badAheadOfFull);
        B.sentence("KINDS: 0 STEADY, 1 BURST, 2 TRY", DutyBoundsTests::kinds);
        B.sentence("a LOAD (1 .. 100)", DutyBoundsTests::loadBounds);
        B.sentence("TIMES a DAY (1 .. 20)", DutyBoundsTests::timesBounds);
        B.sentence("a PEAK (0 .. 100)", DutyBoundsTests::peakBounds);
        B.sentence("TRIES (1 .. 5)", DutyBoundsTests::triesBounds);
        B.sentence("a WORTH (0 .. 100)", DutyBoundsTests::worthBounds);
        B.sentence("PEAK of STEADY is not looked at", DutyBoundsTests::peakOfSteadyIsNotLookedAt);
        B.sentence("TRIES but of TRY are not looked at", DutyBoundsTests::triesOfOthersAreNotLookedAt);
        B.sentence("it is ON (at first) or off", DutyBoundsTests::onAtFirst);
        B.sentence("A DUTY is ON, or off: what it was (1, 0)", DutyBoundsTests::onAndOffAgain);
        B.sentence("on: BAD, there is no such thing", DutyBoundsTests::onOfNoSuchDuty);
        B.sentence("drop: STATE: there is none", DutyBoundsTests::dropOfNone);
        B.sentence("The latest DUTY is gone: how many are left", DutyBoundsTests::dropOfTheLatest);
        B.sentence("drain: BAD: t 1 .. 5", DutyBoundsTests::drainTries);
        B.sentence("drain: BAD: above TRIES of a TRY", DutyBoundsTests::drainTriesOfATry);
        B.sentence("drain: BAD, there is no such thing", DutyBoundsTests::drainOfNoSuchDuty);
        B.sentence("DRAIN of it, whether ON or off", DutyBoundsTests::drainOfOneThatIsOff);
        B.sentence("PEAK, and as much again as PEAK is above THE BAR", DutyBoundsTests::peakAtTheBar);
        B.sentence("as PEAK is above THE BAR", DutyBoundsTests::barAtThePeak);
        B.sentence("TRY up times t", DutyBoundsTests::tryTakesAllOfUpTimesT);
        B.sentence("numbers in brackets come to THE TRACE", DutyBoundsTests::traceOfEachKind);
        B.sentence("as often as drain() asks that body", DutyBoundsTests::traceOnlyByDrain);
        B.sentence("a refused drain() leaves THE TRACE", DutyBoundsTests::traceOfRefusedDrains);
        B.sentence("An object is used for at most 512 calls", DutyBoundsTests::the512thCall);
        B.end();
    }
}
