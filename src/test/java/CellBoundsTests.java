/** Boundary sentences of the cell: a new object, set, shares, season, share. Each has a test of its own. */
public final class CellBoundsTests {
    private static final int BAD = CellDays.BAD;
    private static final Bounds B = new Bounds();

    private static void roomBounds() {
        Probe x = new Probe();
        B.is(1000, x.set(0, 1));
        B.is(1, x.count(3));
        B.is(1, x.set(0, 5000));
        B.is(5000, x.count(3));
        B.is(5000, x.set(0, 5000));
        B.outside(Bounds.used(), 1, 5000, (y, v) -> y.set(0, v));
    }

    private static void roomFillsTheCell() {
        B.is(1000, Bounds.sized(1).charge(0, 1));
        B.is(5000000, Bounds.sized(5000).charge(0, 1));
        B.is(5000000, Bounds.sized(5000).charge(399, 5));
    }

    private static void leakBounds() {
        Probe x = new Probe();
        B.is(1, x.set(1, 0));
        B.is(0, x.count(4));
        B.is(1000000, x.charge(399, 1));
        B.is(0, x.set(1, 20));
        B.is(20, x.count(4));
        B.is(980000, x.charge(0, 1));
        B.outside(Bounds.used(), 0, 20, (y, v) -> y.set(1, v));
    }

    private static void barBounds() {
        Probe x = new Probe();
        x.duty(1, 1, 1, 100, 0, 0);
        B.is(151, x.drain(0, 1));
        B.is(50, x.set(2, 1));
        B.is(1, x.count(5));
        B.is(200, x.drain(0, 1));
        B.is(1, x.set(2, 500));
        B.is(500, x.count(5));
        B.is(101, x.drain(0, 1));
        B.outside(Bounds.used(), 1, 500, (y, v) -> y.set(2, v));
    }

    private static void setOfNoSuchThing() {
        B.outside(Bounds.used(), 0, 2, (y, what) -> y.set(what, 5));
    }

    private static void setTakesEachByItsOwnBounds() {
        B.refused(Bounds.used(), BAD, y -> y.set(1, 30));
        B.refused(Bounds.used(), BAD, y -> y.set(2, 1000));
        B.refused(Bounds.used(), BAD, y -> y.set(0, 0));
        Probe x = new Probe();
        x.set(0, 600);
        B.is(1, x.count(4));
        B.is(50, x.count(5));
        x.set(1, 7);
        B.is(600, x.count(3));
        B.is(50, x.count(5));
        x.set(2, 8);
        B.is(600, x.count(3));
        B.is(7, x.count(4));
    }

    private static Probe allWarmths() {
        Probe x = new Probe();
        x.season(3, 21);
        return x;
    }

    private static void sharesAre(Probe x, int a, int b, int c) {
        B.is(a, x.share(0));
        B.is(b, x.share(1));
        B.is(c, x.share(2));
    }

    private static void sharesAtFirst() {
        sharesAre(allWarmths(), 100, 90, 70);
    }

    private static void sharesLeastAndMost() {
        int[][] taken = {{10, 10, 10}, {100, 10, 10}, {100, 100, 10}, {100, 100, 100}, {11, 10, 10}, {11, 11, 10}};
        for (int[] s : taken) {
            Probe x = allWarmths();
            B.is(1, x.shares(s[0], s[1], s[2]));
            sharesAre(x, s[0], s[1], s[2]);
        }
        Probe x = Bounds.used();
        B.outside(x, 10, 100, (y, v) -> y.shares(v, 10, 10));
        B.outside(x, 10, 100, (y, v) -> y.shares(100, v, 10));
        B.outside(x, 10, 100, (y, v) -> y.shares(100, 100, v));
        B.outside(x, 10, 100, (y, v) -> y.shares(v, v, v));
        B.refused(x, BAD, y -> y.shares(9, 9, 9));
        B.refused(x, BAD, y -> y.shares(101, 101, 101));
    }

    private static void sharesNoneAboveTheOneBefore() {
        Probe x = allWarmths();
        B.is(1, x.shares(50, 50, 50));
        sharesAre(x, 50, 50, 50);
        B.is(1, x.shares(50, 49, 49));
        sharesAre(x, 50, 49, 49);
        B.is(1, x.shares(50, 50, 49));
        sharesAre(x, 50, 50, 49);
        B.refused(Bounds.used(), BAD, y -> y.shares(50, 51, 50));
        B.refused(Bounds.used(), BAD, y -> y.shares(50, 50, 51));
        B.refused(Bounds.used(), BAD, y -> y.shares(50, 40, 41));
        B.refused(Bounds.used(), BAD, y -> y.shares(50, 51, 51));
        B.refused(Bounds.used(), BAD, y -> y.shares(10, 11, 10));
        B.refused(Bounds.used(), BAD, y -> y.shares(99, 100, 99));
        B.refused(Bounds.used(), BAD, y -> y.shares(10, 50, 100));
    }

    private static void seasonAtFirst() {
        Probe x = new Probe();
        for (int d = 0; d < 400; d++) B.is(100, x.share(d));
        Probe cold = new Probe();
        cold.shares(80, 40, 20);
        B.is(80, cold.share(0));
        B.is(80, cold.share(1));
        B.is(80, cold.share(399));
    }

    private static void seasonLength() {
        Probe x = new Probe();
        for (int n = 1; n <= 12; n++) B.is(n, x.season(n, 0));
        Probe y = Bounds.used();
        B.outside(y, 1, 12, (z, n) -> z.season(n, 0));
        B.outside(y, 1, 12, (z, n) -> z.season(n, 1));
        for (int n = 13; n <= 33; n++) {
            int most = n;
            B.refused(y, BAD, z -> z.season(most, 531440));
        }
    }

    private static void seasonNumber() {
        int power = 1;
        for (int n = 1; n <= 12; n++) {
            power *= 3;
            int length = n, first = power;
            Probe x = new Probe();
            B.is(n, x.season(n, 0));
            for (int d = 0; d < 2 * n; d++) B.is(100, x.share(d));
            B.is(n, x.season(n, power - 1));
            for (int d = 0; d < 2 * n; d++) B.is(70, x.share(d));
            B.outside(Bounds.used(), 0, first - 1, (y, v) -> y.season(length, v));
        }
    }

    private static void seasonLowestDigitFirst() {
        Probe x = new Probe();
        B.is(2, x.season(2, 2));
        B.is(70, x.share(0));
        B.is(100, x.share(1));
        B.is(12, x.season(12, 177147));
        for (int d = 0; d < 11; d++) B.is(100, x.share(d));
        B.is(90, x.share(11));
        B.is(12, x.season(12, 1));
        B.is(90, x.share(0));
        for (int d = 1; d < 12; d++) B.is(100, x.share(d));
        B.is(4, x.season(4, 2 + 3 * 1 + 9 * 0 + 27 * 1));
        int[] four = {70, 90, 100, 90};
        for (int d = 0; d < 4; d++) B.is(four[d], x.share(d));
    }

    private static void seasonWrapsAround() {
        int top = 1;
        for (int n = 1; n <= 12; n++) {
            Probe x = new Probe();
            x.season(n, 2 * top);
            for (int d = 0; d < 400; d++) B.is(d % n == n - 1 ? 70 : 100, x.share(d));
            top *= 3;
        }
    }

    /** The whole row is a new one: a shorter one forgets the places behind it, a longer one has only its own. */
    private static void seasonBecomesTheNewRow() {
        Probe x = new Probe();
        x.season(12, 531440);
        x.season(2, 1);
        for (int d = 0; d < 24; d++) B.is(d % 2 == 0 ? 90 : 100, x.share(d));
        x.season(12, 0);
        for (int d = 0; d < 24; d++) B.is(100, x.share(d));
    }

    private static void seasonWrapsForLives() {
        Probe x = Bounds.small();
        x.shares(100, 50, 10);
        x.steady(10, 1);
        x.season(3, 21);
        B.is(990, x.charge(0, 1));
        B.is(970, x.charge(1, 1));
        B.is(870, x.charge(2, 1));
        B.is(860, x.charge(3, 1));
        B.is(840, x.charge(4, 1));
        B.is(740, x.charge(5, 1));
        B.is(23, x.life(1));
    }

    private static void shareDays() {
        Probe x = new Probe();
        x.season(7, 2 + 2 * 729);
        B.is(70, x.share(0));
        B.is(100, x.share(1));
        B.is(70, x.share(398));
        B.is(70, x.share(399));
        x.season(2, 1);
        B.is(90, x.share(398));
        B.is(100, x.share(399));
        B.outside(Bounds.used(), 0, 399, (y, day) -> y.share(day));
    }

    private static void newObject() {
        int[] counts = {0, 0, 0, 1000, 1, 50};
        Probe x = new Probe();
        for (int i = 0; i < 6; i++) B.is(counts[i], x.count(i));
        B.is(0, x.trace());
        B.is(CellDays.STATE, x.drop());
        B.is(CellDays.STATE, x.forget());
        B.is(0, x.duty(0, 1, 1, 0, 0, 0));
        B.is(1, x.sign(0, 9));
        B.is(999000, new Probe().charge(0, 1));
    }

    private static void objectsShareNothing() {
        String first = new Probe().seen();
        Bounds.used().seen();
        B.same("a new object beside a used one", first, new Probe().seen());
    }

    /** What a refused call spoils can only be found if every change shows. */
    private static void everyChangeShows() {
        Probe x = Bounds.used();
        String seen = x.again().seen();
        B.same("the same changes, the same sight", seen, x.again().seen());
        Probe[] changed = new Probe[13];
        for (int i = 0; i < changed.length; i++) changed[i] = x.again();
        changed[0].set(0, 31);
        changed[1].set(1, 4);
        changed[2].set(2, 21);
        changed[3].shares(95, 61, 30);
        changed[4].season(6, 2 + 9 + 81);
        changed[5].duty(2, 1, 1, 0, 1, 0);
        changed[6].on(0, false);
        changed[7].drop();
        changed[8].drain(0, 1);
        changed[9].sign(20, 8);
        changed[10].forget();
        changed[11].shares(94, 60, 30);
        changed[12].shares(95, 60, 29);
        for (int i = 0; i < changed.length; i++) B.holds("change " + i + " shows", !seen.equals(changed[i].seen()));
    }

    public static void main(String[] args) {
        B.sentence("a refused call: nothing changes (the test of the tests)", CellBoundsTests::everyChangeShows);
        B.sentence("As told; no DUTIES, no SIGNS", CellBoundsTests::newObject);
        B.sentence("A new object", CellBoundsTests::objectsShareNothing);
        B.sentence("ROOM (1 .. 5000; 1000 at first)", CellBoundsTests::roomBounds);
        B.sentence("CHARGE (ROOM times 1000 at first, thousandths)", CellBoundsTests::roomFillsTheCell);
        B.sentence("LEAK (0 .. 20 thousandths a DAY; 1 at first)", CellBoundsTests::leakBounds);
        B.sentence("BAR (1 .. 500; 50 at first)", CellBoundsTests::barBounds);
        B.sentence("ROOM (what = 0), LEAK (1), BAR (2)", CellBoundsTests::setOfNoSuchThing);
        B.sentence("becomes v: what it was. BAD", CellBoundsTests::setTakesEachByItsOwnBounds);
        B.sentence("100, 90, 70 at first", CellBoundsTests::sharesAtFirst);
        B.sentence("SHARE 10 .. 100 hundredths", CellBoundsTests::sharesLeastAndMost);
        B.sentence("none above the one before it", CellBoundsTests::sharesNoneAboveTheOneBefore);
        B.sentence("THE SEASON (one 0 at first)", CellBoundsTests::seasonAtFirst);
        B.sentence("a row of n (1 .. 12) warmths; BAD: n", CellBoundsTests::seasonLength);
        B.sentence("BAD: number below 0 or 3^n and more", CellBoundsTests::seasonNumber);
        B.sentence("the digits of a number by 3, the lowest first", CellBoundsTests::seasonLowestDigitFirst);
        B.sentence("WARMTH of DAY d is that of place d modulo n", CellBoundsTests::seasonWrapsAround);
        B.sentence("THE SEASON becomes a row of n warmths", CellBoundsTests::seasonBecomesTheNewRow);
        B.sentence("SHARE of the DAY's warmth", CellBoundsTests::seasonWrapsForLives);
        B.sentence("SHARE of a DAY 0 .. 399. BAD", CellBoundsTests::shareDays);
        B.end();
    }
}
