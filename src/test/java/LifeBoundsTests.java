/** Boundary sentences of lives and plans: life, charge, price, plan. Each has a test of its own. */
public final class LifeBoundsTests {
    private static final int BAD = CellDays.BAD;
    private static final int TRY = 2;
    private static final Bounds B = new Bounds();

    private static void leakRoundedUp() {
        Probe x = new Probe();
        x.set(0, 1);
        int[] byOne = {999, 998, 997};
        for (int d = 0; d < 3; d++) B.is(byOne[d], x.charge(d, 1));
        x.set(1, 20);
        int[] byTwenty = {980, 960, 940, 921, 902, 883};
        for (int d = 0; d < 6; d++) B.is(byTwenty[d], x.charge(d, 1));
        x.set(0, 5000);
        B.is(4900000, x.charge(0, 1));
        B.is(4802000, x.charge(1, 1));
    }

    /** By 1 thousandth 1000 leak 1, and 1001 leak 2. */
    private static void leakJustAboveAWholeOne() {
        int[][] rows = {{96, 1002, 2}, {97, 1001, 2}, {98, 1000, 1}};
        for (int[] row : rows) {
            Probe x = new Probe();
            x.set(0, 2);
            x.steady(100, 9);
            x.steady(row[0], 1);
            B.is(row[1], x.charge(0, 1));
            B.is(row[1] - row[2] - 900 - row[0], x.charge(1, 1));
        }
    }

    private static void leakAloneEmptiesNothing() {
        for (int leak = 0; leak <= 20; leak += 20) {
            for (int room = 1; room <= 5000; room += 4999) {
                Probe x = new Probe();
                x.set(0, room);
                x.set(1, leak);
                for (int t = 1; t <= 5; t++) B.is(400, x.life(t));
            }
        }
        Probe x = new Probe();
        x.set(0, 1);
        x.set(1, 20);
        B.is(0, x.charge(399, 1));
        B.is(400, x.life(1));
    }

    private static void leakFirstThenDrains() {
        Probe x = Bounds.small();
        x.set(1, 20);
        x.steady(100, 1);
        B.is(880, x.charge(0, 1));
        B.is(762, x.charge(1, 1));
        x.drop();
        x.steady(98, 10);
        B.is(0, x.charge(0, 1));
        B.is(1, x.life(1));
        x.steady(1, 1);
        B.is(0, x.life(1));
    }

    private static void takenOnOneDay(int share, int load, int taken) {
        Probe x = Bounds.small();
        x.shares(share, share, share);
        x.steady(load, 1);
        B.is(1000 - taken, x.charge(0, 1));
        B.is(1000 - 2 * taken, x.charge(1, 1));
    }

    private static void drainsRoundedUp() {
        takenOnOneDay(100, 1, 1);
        takenOnOneDay(100, 100, 100);
        takenOnOneDay(70, 7, 10);
        takenOnOneDay(70, 8, 12);
        takenOnOneDay(70, 6, 9);
        takenOnOneDay(99, 99, 100);
        takenOnOneDay(99, 98, 99);
        takenOnOneDay(99, 1, 2);
        takenOnOneDay(90, 9, 10);
        takenOnOneDay(90, 10, 12);
        takenOnOneDay(10, 1, 10);
        takenOnOneDay(10, 50, 500);
        takenOnOneDay(11, 11, 100);
        takenOnOneDay(11, 1, 10);
    }

    /** Two of 1 by 70 are 3 together, but would be 2 each. */
    private static void drainsAddedAheadOfRounding() {
        Probe x = Bounds.small();
        x.shares(70, 70, 70);
        x.steady(1, 1);
        B.is(998, x.charge(0, 1));
        x.steady(1, 1);
        B.is(997, x.charge(0, 1));
        for (int i = 2; i < 7; i++) x.steady(1, 1);
        B.is(990, x.charge(0, 1));
        x.steady(1, 1);
        B.is(988, x.charge(0, 1));
    }

    private static void drainsOfThoseThatAreOn() {
        Probe x = Bounds.small();
        for (int i = 0; i < 8; i++) x.steady(1 << Math.min(i, 6), i == 7 ? 2 : 1);
        B.is(1000 - 255, x.charge(0, 1));
        for (int i = 0; i < 8; i++) {
            x.on(i, false);
            B.is(1000 - 255 + (1 << i), x.charge(0, 1));
            x.on(i, true);
        }
        for (int i = 0; i < 8; i++) x.on(i, false);
        B.is(1000, x.charge(399, 1));
        x.on(7, true);
        B.is(1000 - 128, x.charge(0, 1));
    }

    private static void greatestDrains() {
        Probe x = Bounds.sized(5000);
        x.set(2, 1);
        x.shares(10, 10, 10);
        for (int i = 0; i < 8; i++) x.duty(TRY, 100, 20, 100, 5, 100);
        B.is(5000000 - 8 * 10995 * 10, x.charge(0, 5));
        B.is(5, x.life(5));
        B.is(28, x.life(1));
        x.set(0, 1);
        B.is(0, x.life(5));
        B.is(0, x.charge(0, 5));
    }

    private static void lastsWithJustNothingLeft() {
        Probe x = Bounds.small();
        x.steady(100, 10);
        B.is(1, x.life(1));
        B.is(0, x.charge(0, 1));
        B.is(0, x.charge(1, 1));
        x.steady(1, 1);
        B.is(0, x.life(1));
        B.is(0, x.charge(0, 1));
        x.drop();
        x.drop();
        x.steady(99, 10);
        B.is(1, x.life(1));
        B.is(10, x.charge(0, 1));
        x.drop();
        x.steady(100, 1);
        B.is(10, x.life(1));
        B.is(100, x.charge(8, 1));
        B.is(0, x.charge(9, 1));
        x.set(0, 2);
        B.is(20, x.life(1));
    }

    /** A cold day that it does not last ends it, though it would last the warm one behind. */
    private static void oneAfterTheOther() {
        Probe x = Bounds.small();
        x.shares(100, 10, 10);
        x.season(3, 3);
        x.steady(100, 1);
        B.is(1, x.life(1));
        B.is(900, x.charge(0, 1));
        B.is(0, x.charge(1, 1));
        B.is(0, x.charge(2, 1));
        x.season(3, 1);
        B.is(1, x.life(1));
        x.season(12, 1);
        x.drop();
        x.steady(100, 2);
        B.is(0, x.life(1));
        B.is(0, x.charge(1, 1));
        B.is(0, x.charge(399, 1));
    }

    private static void life400AtMost() {
        int[][] rows = {{398, 398}, {399, 399}, {400, 400}, {401, 400}, {5000, 400}};
        for (int[] row : rows) {
            Probe x = Bounds.sized(row[0]);
            x.steady(100, 10);
            B.is(row[1], x.life(1));
        }
        B.is(400, new Probe().life(5));
    }

    private static void lesserOfTAndTries() {
        int[] days = {100, 50, 33, 25, 20};
        for (int tries = 1; tries <= 5; tries++) {
            Probe x = Bounds.small();
            x.duty(TRY, 10, 1, 0, tries, 0);
            for (int t = 1; t <= 5; t++) {
                int needed = Math.min(t, tries);
                B.is(days[needed - 1], x.life(t));
                B.is(1000 - 10 * needed, x.charge(0, t));
            }
        }
        Probe mixed = Bounds.small();
        for (int tries = 1; tries <= 5; tries++) mixed.duty(TRY, 10, 1, 0, tries, 0);
        int[] sums = {50, 90, 120, 140, 150};
        for (int t = 1; t <= 5; t++) B.is(1000 - sums[t - 1], mixed.charge(0, t));
    }

    private static void lifeTries() {
        for (int t = 1; t <= 5; t++) B.is(400, new Probe().life(t));
        B.outside(Bounds.used(), 1, 5, (y, t) -> y.life(t));
        B.outside(new Probe(), 1, 5, (y, t) -> y.life(t));
    }

    private static void chargeDays() {
        Probe x = Bounds.sized(5);
        x.steady(10, 1);
        B.is(4990, x.charge(0, 1));
        B.is(4980, x.charge(1, 1));
        B.is(1010, x.charge(398, 1));
        B.is(1000, x.charge(399, 1));
        x.set(0, 4);
        B.is(10, x.charge(398, 1));
        B.is(0, x.charge(399, 1));
        B.outside(Bounds.used(), 0, 399, (y, day) -> y.charge(day, 1));
        B.refused(Bounds.used(), BAD, y -> y.charge(Integer.MAX_VALUE - 1, 1));
    }

    private static void chargeTries() {
        Probe x = Bounds.small();
        x.duty(TRY, 10, 1, 0, 5, 0);
        B.is(990, x.charge(0, 1));
        B.is(950, x.charge(0, 5));
        B.outside(Bounds.used(), 1, 5, (y, t) -> y.charge(0, t));
        B.refused(Bounds.used(), BAD, y -> y.charge(400, 6));
    }

    private static void chargeWhereItDoesNotLast() {
        Probe x = Bounds.small();
        x.steady(3, 10);
        B.is(33, x.life(1));
        B.is(10, x.charge(32, 1));
        for (int d = 33; d < 400; d++) B.is(0, x.charge(d, 1));
    }

    private static void priceOfNoSuchDuty() {
        for (int i : new int[] {-1, 0, 7, 8, 31, 32}) B.refused(new Probe(), BAD, y -> y.price(i));
        B.outside(Bounds.used(), 0, 3, (y, i) -> y.price(i));
        B.outside(Bounds.fullOfDuties(), 0, 7, (y, i) -> y.price(i));
        B.refused(Bounds.fullOfDuties(), BAD, y -> y.price(32));
        Probe dropped = Bounds.used();
        dropped.drop();
        B.refused(dropped, BAD, y -> y.price(3));
    }

    private static void priceLeastAndMost() {
        Probe x = Bounds.small();
        x.steady(100, 10);
        B.is(400 - 1, x.price(0));
        x.steady(1, 1);
        B.is(1 - 0, x.price(1));
        B.is(400 - 0, new1001().price(0));
        B.is(0, roomy().price(0));
        Probe gone = new1001();
        gone.steady(100, 20);
        B.is(0, gone.price(0));
    }

    /** A cell that a single duty does not let last a day. */
    private static Probe new1001() {
        Probe x = Bounds.small();
        x.duty(1, 100, 9, 67, 0, 0);
        x.set(2, 33);
        return x;
    }

    /** A cell that lasts all days with the duty and without. */
    private static Probe roomy() {
        Probe x = Bounds.sized(5000);
        x.steady(1, 1);
        return x;
    }

    private static void priceOnOrOff() {
        Probe x = Bounds.small();
        x.steady(100, 1);
        x.steady(50, 1);
        B.is(20 - 6, x.price(0));
        B.is(10 - 6, x.price(1));
        x.on(1, false);
        B.is(10 - 6, x.price(1));
        B.is(400 - 10, x.price(0));
        B.is(1, x.count(1));
        B.is(10, x.life(1));
        x.on(0, false);
        B.is(400 - 10, x.price(0));
        B.is(400 - 20, x.price(1));
        B.is(0, x.count(1));
        Probe last = Bounds.small();
        for (int i = 0; i < 7; i++) last.steady(1, 1);
        last.steady(100, 1);
        for (int i = 0; i < 7; i++) last.on(i, false);
        B.is(400 - 10, last.price(7));
        last.on(7, false);
        B.is(400 - 10, last.price(7));
    }

    private static void sureIsBy5() {
        Probe x = Bounds.small();
        x.duty(TRY, 10, 1, 0, 5, 8);
        B.is(20, x.life(5));
        B.is(100, x.life(1));
        B.is(400 - 20, x.price(0));
        B.is(1, x.plan(20, 0));
        B.is(20, x.plan(20, 2));
        B.is(0, x.plan(21, 0));
    }

    private static void planIs(Probe x, int n, int set, int worth, int sure) {
        B.is(set, x.plan(n, 0));
        B.is(worth, x.plan(n, 1));
        B.is(sure, x.plan(n, 2));
    }

    private static void planDays() {
        Probe x = Bounds.sized(399);
        x.duty(0, 100, 10, 0, 0, 3);
        planIs(x, 1, 1, 3, 399);
        planIs(x, 399, 1, 3, 399);
        planIs(x, 400, 0, 0, 400);
        for (int what = 0; what < 3; what++) {
            int one = what;
            B.outside(Bounds.used(), 1, 400, (y, n) -> y.plan(n, one));
            B.outside(new Probe(), 1, 400, (y, n) -> y.plan(n, one));
        }
    }

    private static void planWhat() {
        Probe x = Bounds.small();
        x.duty(0, 10, 1, 0, 0, 3);
        planIs(x, 50, 1, 3, 100);
        B.outside(Bounds.used(), 0, 2, (y, what) -> y.plan(1, what));
        B.refused(Bounds.used(), BAD, y -> y.plan(0, 3));
        B.refused(Bounds.used(), BAD, y -> y.plan(401, -1));
    }

    private static void planWhereSureIsJustN() {
        Probe x = Bounds.small();
        x.duty(0, 100, 1, 0, 0, 5);
        x.duty(0, 50, 1, 0, 0, 4);
        planIs(x, 6, 3, 9, 6);
        planIs(x, 7, 1, 5, 10);
        planIs(x, 10, 1, 5, 10);
        planIs(x, 11, 2, 4, 20);
        planIs(x, 20, 2, 4, 20);
        planIs(x, 21, 0, 0, 400);
    }

    private static void planOfSeveralTheLeast() {
        Probe x = Bounds.small();
        for (int i = 0; i < 8; i++) x.duty(0, 10, 1, 0, 0, 5);
        planIs(x, 100, 1, 5, 100);
        planIs(x, 50, 3, 10, 50);
        planIs(x, 33, 7, 15, 33);
        planIs(x, 12, 255, 40, 12);
        planIs(x, 13, 127, 35, 14);
        Probe unlike = Bounds.small();
        unlike.duty(0, 100, 1, 0, 0, 5);
        unlike.duty(0, 1, 1, 0, 0, 5);
        planIs(unlike, 10, 1, 5, 10);
        planIs(unlike, 11, 2, 5, 400);
        Probe sum = Bounds.small();
        sum.duty(0, 10, 1, 0, 0, 2);
        sum.duty(0, 10, 1, 0, 0, 3);
        sum.duty(0, 20, 1, 0, 0, 5);
        planIs(sum, 50, 3, 5, 50);
    }

    private static void planOfNoWorth() {
        Probe x = Bounds.small();
        for (int i = 0; i < 8; i++) x.duty(i % 3, 1, 1, 0, 1, 0);
        planIs(x, 1, 0, 0, 400);
        planIs(x, 400, 0, 0, 400);
        x.drop();
        x.duty(0, 1, 1, 0, 0, 1);
        planIs(x, 1, 128, 1, 400);
    }

    private static void planOnOrOff() {
        Probe x = Bounds.small();
        x.duty(0, 100, 1, 0, 0, 5);
        x.duty(0, 50, 1, 0, 0, 4);
        for (int lit = 0; lit < 4; lit++) {
            x.on(0, (lit & 1) != 0);
            x.on(1, (lit & 2) != 0);
            planIs(x, 6, 3, 9, 6);
            planIs(x, 20, 2, 4, 20);
            B.is(Integer.bitCount(lit), x.count(1));
        }
    }

    private static void planOfEmptyAndFullRow() {
        planIs(new Probe(), 1, 0, 0, 400);
        planIs(new Probe(), 400, 0, 0, 400);
        Probe all = Bounds.sized(5000);
        for (int i = 0; i < 8; i++) all.duty(i % 3, 1, 1, 0, 1, 100);
        planIs(all, 400, 255, 800, 400);
        Probe none = Bounds.small();
        for (int i = 0; i < 8; i++) none.duty(0, 100, 20, 0, 0, 100);
        planIs(none, 1, 0, 0, 400);
        Probe dropped = Bounds.small();
        dropped.duty(0, 1, 1, 0, 0, 1);
        dropped.duty(0, 1, 1, 0, 0, 100);
        dropped.drop();
        planIs(dropped, 400, 1, 1, 400);
    }

    /** LEAK alone never ends a cell, so the set of none always does, and NONE is never due. */
    private static void planIsNeverNone() {
        int[][] cells = {{1, 0}, {1, 1}, {1, 20}, {5000, 20}};
        for (int[] cell : cells) {
            Probe x = new Probe();
            x.set(0, cell[0]);
            x.set(1, cell[1]);
            x.shares(10, 10, 10);
            for (int i = 0; i < 8; i++) x.duty(TRY, 100, 20, 100, 5, 100);
            planIs(x, 400, 0, 0, 400);
        }
    }

    public static void main(String[] args) {
        B.sentence("first LEAK thousandths of it, rounded up", LifeBoundsTests::leakRoundedUp);
        B.sentence("LEAK thousandths of it, rounded up", LifeBoundsTests::leakJustAboveAWholeOne);
        B.sentence("LEAK (0 .. 20): what is 0 leaks 0", LifeBoundsTests::leakAloneEmptiesNothing);
        B.sentence("first LEAK; then the DRAINS", LifeBoundsTests::leakFirstThenDrains);
        B.sentence("S times 100 by SHARE, rounded up", LifeBoundsTests::drainsRoundedUp);
        B.sentence("with S the DRAINS, added", LifeBoundsTests::drainsAddedAheadOfRounding);
        B.sentence("of all DUTIES that are ON", LifeBoundsTests::drainsOfThoseThatAreOn);
        B.sentence("the greatest S by the least SHARE", LifeBoundsTests::greatestDrains);
        B.sentence("It LASTS that DAY, if CHARGE is 0 or more behind it", LifeBoundsTests::lastsWithJustNothingLeft);
        B.sentence("DAYS from 0 on that it lasts, one after the other", LifeBoundsTests::oneAfterTheOther);
        B.sentence("LIFE: 400 at most", LifeBoundsTests::life400AtMost);
        B.sentence("all TRIES needing the lesser of t and TRIES", LifeBoundsTests::lesserOfTAndTries);
        B.sentence("LIFE by t (1 .. 5). BAD", LifeBoundsTests::lifeTries);
        B.sentence("CHARGE behind a DAY 0 .. 399", LifeBoundsTests::chargeDays);
        B.sentence("CHARGE by t. BAD", LifeBoundsTests::chargeTries);
        B.sentence("as long as it LASTS; 0: it does not", LifeBoundsTests::chargeWhereItDoesNotLast);
        B.sentence("price: BAD, there is no such thing", LifeBoundsTests::priceOfNoSuchDuty);
        B.sentence("SURE without it, less SURE with it", LifeBoundsTests::priceLeastAndMost);
        B.sentence("PRICE of a DUTY (ON, or off)", LifeBoundsTests::priceOnOrOff);
        B.sentence("SURE: LIFE by t 5; BEST: by t 1", LifeBoundsTests::sureIsBy5);
        B.sentence("THE PLAN for a DAY n (1 .. 400)", LifeBoundsTests::planDays);
        B.sentence("the set (what = 0), its WORTH (1), SURE by it (2)", LifeBoundsTests::planWhat);
        B.sentence("by which SURE is n or more", LifeBoundsTests::planWhereSureIsJustN);
        B.sentence("the greatest WORTH in all; of several the least number", LifeBoundsTests::planOfSeveralTheLeast);
        B.sentence("a WORTH of 0: of several the least number", LifeBoundsTests::planOfNoWorth);
        B.sentence("whether they are ON or not", LifeBoundsTests::planOnOrOff);
        B.sentence("of all sets of DUTIES: no duty, and all 8", LifeBoundsTests::planOfEmptyAndFullRow);
        B.sentence("NONE, if not even that of none does", LifeBoundsTests::planIsNeverNone);
        B.end();
    }
}
