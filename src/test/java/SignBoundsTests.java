/** Boundary sentences of the signs: sign, forget, level, agrees, field, count. Each has a test of its own. */
public final class SignBoundsTests {
    private static final int BAD = CellDays.BAD, STATE = CellDays.STATE, FULL = CellDays.FULL, NONE = CellDays.NONE;
    private static final int TRY = 2;
    private static final Bounds B = new Bounds();

    private static void signDays() {
        Probe x = new Probe();
        B.is(1, x.sign(0, 9));
        B.is(2, x.sign(399, 6));
        B.is(2, x.count(2));
        B.outside(Bounds.used(), 0, 399, (y, day) -> y.sign(day, 5));
    }

    private static void signLevels() {
        Probe x = new Probe();
        for (int level = 0; level <= 9; level++) B.is(level + 1, x.sign(30, level));
        B.outside(Bounds.used(), 0, 9, (y, level) -> y.sign(30, level));
        B.refused(Bounds.used(), BAD, y -> y.sign(400, 10));
    }

    private static void signs12AtMost() {
        Probe x = new Probe();
        for (int i = 1; i <= 12; i++) {
            B.is(i, x.sign(0, 9));
            B.is(i, x.count(2));
        }
        B.refused(x, FULL, y -> y.sign(0, 9));
        B.refused(Bounds.fullOfSigns(), FULL, y -> y.sign(0, 9));
        B.refused(Bounds.fullOfSigns(), FULL, y -> y.sign(399, 0));
        B.is(11, x.forget());
        B.is(12, x.sign(1, 9));
        B.is(FULL, x.sign(1, 9));
    }

    private static void badAheadOfFull() {
        B.outside(Bounds.fullOfSigns(), 0, 399, (y, day) -> y.sign(day, 5));
        B.outside(Bounds.fullOfSigns(), 0, 9, (y, level) -> y.sign(5, level));
    }

    private static void forgetOfNone() {
        B.refused(new Probe(), STATE, Probe::forget);
        Probe x = Bounds.fullOfSigns();
        for (int left = 11; left >= 0; left--) B.is(left, x.forget());
        B.refused(x, STATE, Probe::forget);
        B.is(1, x.sign(5, 5));
        B.is(0, x.forget());
        B.is(STATE, x.forget());
        B.is(STATE, x.forget());
        B.is(0, x.count(2));
    }

    /** The latest is the one told last, on whichever day it was read. */
    private static void forgetOfTheLatest() {
        Probe falling = Bounds.small();
        falling.sign(300, 9);
        falling.sign(100, 0);
        B.is(0, falling.field(0));
        B.is(1, falling.forget());
        B.is(1, falling.agrees(0));
        B.is(0, falling.agrees(1));
        Probe rising = Bounds.small();
        rising.sign(100, 0);
        rising.sign(300, 9);
        B.is(0, rising.field(0));
        B.is(1, rising.forget());
        B.is(0, rising.agrees(0));
        B.is(1, rising.agrees(1));
        B.is(0, rising.forget());
        B.is(150, rising.field(0));
    }

    private static void levelNumbers() {
        B.is(9, new Probe().level(0, 0));
        B.is(9, new Probe().level(149, 0));
        B.outside(Bounds.used(), 0, 149, (y, number) -> y.level(number, 0));
    }

    private static void levelDays() {
        Probe x = Bounds.small();
        x.steady(1, 1);
        B.is(9, x.level(0, 0));
        B.is(6, x.level(0, 399));
        B.outside(Bounds.used(), 0, 399, (y, day) -> y.level(0, day));
        B.refused(Bounds.used(), BAD, y -> y.level(150, 400));
        B.refused(Bounds.used(), BAD, y -> y.level(-1, -1));
    }

    private static void levelRoundedDown() {
        Probe x = Bounds.small();
        x.steady(1, 1);
        int[][] byOne = {{99, 9}, {100, 9}, {101, 8}, {199, 8}, {200, 8}, {201, 7}, {300, 7}, {301, 6}};
        for (int[] row : byOne) B.is(row[1], x.level(0, row[0]));
        Probe y = Bounds.small();
        y.steady(100, 1);
        for (int d = 1; d <= 10; d++) B.is(10 - d, y.level(0, d));
        Probe z = Bounds.small();
        z.steady(90, 10);
        B.is(1, z.level(0, 1));
        z.steady(1, 1);
        B.is(0, z.level(0, 1));
    }

    private static void level9AtMost() {
        for (int room = 1; room <= 5000; room += 4999) {
            Probe x = Bounds.sized(room);
            for (int number = 0; number < 150; number++) B.is(9, x.level(number, 0));
            for (int d = 0; d < 300; d++) B.is(9, x.level(0, d));
            B.is(9, x.level(20, 399));
        }
    }

    private static void level0WhereItDoesNotLast() {
        Probe x = Bounds.small();
        x.steady(60, 10);
        B.is(4, x.level(0, 1));
        for (int d = 2; d < 400; d++) B.is(0, x.level(0, d));
        Probe y = Bounds.small();
        y.steady(100, 20);
        B.is(9, y.level(0, 0));
        B.is(0, y.level(0, 1));
        B.is(0, y.level(0, 399));
        Probe just = Bounds.small();
        just.steady(100, 10);
        B.is(0, just.level(0, 1));
        B.is(0, just.level(0, 2));
    }

    /** Ahead of a day stands what the day before it left. */
    private static void levelAheadOfTheDay() {
        Probe x = Bounds.small();
        x.shares(100, 100, 10);
        x.season(3, 18);
        x.steady(30, 1);
        int[] levels = {9, 9, 9, 6, 6, 5, 2, 2, 2, 0};
        for (int d = 0; d < levels.length; d++) B.is(levels[d], x.level(0, d));
    }

    private static void ages() {
        Probe x = Bounds.small();
        x.set(1, 20);
        B.is(8, x.level(100, 9));
        B.is(7, x.level(125, 9));
        B.is(9, x.level(125, 4));
        B.is(8, x.level(125, 5));
        B.is(9, x.level(0, 5));
        B.is(8, x.level(0, 6));
        x.set(1, 0);
        B.is(9, x.level(0, 399));
        B.is(9, x.level(25, 100));
        B.is(8, x.level(25, 101));
        Probe most = Bounds.sized(5000);
        most.set(1, 20);
        B.is(9, most.level(125, 4));
        B.is(8, most.level(125, 5));
    }

    private static void oddDrains() {
        Probe x = Bounds.small();
        int[][] rows = {
            {0, 399, 9}, {1, 5, 9}, {1, 6, 8}, {2, 5, 8}, {2, 6, 7}, {3, 5, 7}, {3, 6, 6},
            {4, 5, 6}, {4, 6, 5}, {4, 12, 0}, {4, 13, 0}, {1, 45, 1}, {1, 46, 0}
        };
        for (int[] row : rows) B.is(row[2], x.level(row[0], row[1]));
        x.shares(70, 70, 70);
        x.steady(1, 1);
        B.is(7, x.level(1, 10));
        B.is(6, x.level(1, 11));
    }

    private static void triesOfCases() {
        for (int tries = 1; tries <= 5; tries++) {
            Probe x = Bounds.small();
            x.duty(TRY, 10, 1, 0, tries, 0);
            for (int t = 1; t <= 5; t++) {
                int needed = Math.min(t, tries);
                int last = 100 / (10 * needed);
                B.is(9, x.level(5 * (t - 1), last));
                B.is(8, x.level(5 * (t - 1), last + 1));
                B.is(0, x.level(5 * (t - 1), 100 / needed + 1));
            }
        }
    }

    /** 3 a day for each try and 20 for each x; the age takes 1 a day for each, of a cell of one room, at first. */
    private static void caseNumbers() {
        Probe x = Bounds.small();
        x.duty(TRY, 3, 1, 0, 5, 0);
        for (int number = 0; number < 150; number++) {
            int age = number / 25, t = number / 5 % 5 + 1, odd = number % 5;
            int left = 1000;
            for (int d = 0; d < 8; d++) left -= (left * age + 999) / 1000 + 3 * t + 20 * odd;
            B.is(Math.max(0, Math.min(9, Math.floorDiv(left, 100))), x.level(number, 8));
        }
        int[][] edges = {{4, 2, 8}, {5, 16, 9}, {5, 17, 8}, {20, 6, 9}, {20, 7, 8}, {24, 1, 9}, {24, 2, 8}, {25, 25, 9}, {25, 26, 8}};
        for (int[] edge : edges) B.is(edge[2], x.level(edge[0], edge[1]));
    }

    private static void casesOfDutiesThatAreOn() {
        Probe x = Bounds.small();
        x.steady(100, 1);
        x.on(0, false);
        B.is(9, x.level(0, 399));
        x.on(0, true);
        B.is(8, x.level(0, 2));
    }

    private static void agreesNumbers() {
        B.outside(Bounds.used(), 0, 149, (y, number) -> y.agrees(number));
        B.outside(new Probe(), 0, 149, (y, number) -> y.agrees(number));
    }

    private static void agreesWithoutSigns() {
        Probe x = new Probe();
        x.steady(100, 20);
        for (int number = 0; number < 150; number++) B.is(1, x.agrees(number));
        B.is(150, x.field(0));
        x.sign(0, 9);
        for (int number = 0; number < 150; number++) B.is(1, x.agrees(number));
        B.is(150, x.field(0));
        x.sign(0, 8);
        for (int number = 0; number < 150; number++) B.is(0, x.agrees(number));
        B.is(0, x.field(0));
    }

    /** Twelve signs, of which none, or any single one, is not as the case has it. */
    private static void agreesOnAllSignsDays() {
        int[] days = {50, 0, 399, 7, 21, 33, 14, 49, 28, 8, 42, 35};
        for (int wrong = -1; wrong < 12; wrong++) {
            Probe x = Bounds.small();
            x.steady(14, 1);
            for (int i = 0; i < 12; i++) {
                int level = x.level(0, days[i]);
                x.sign(days[i], i == wrong ? (level + 1) % 10 : level);
            }
            B.is(wrong < 0 ? 1 : 0, x.agrees(0));
        }
    }

    private static void twoSignsOnOneDay() {
        Probe x = Bounds.small();
        x.sign(300, 9);
        x.sign(300, 9);
        B.is(5, x.field(0));
        B.is(1, x.agrees(0));
        x.sign(300, 0);
        B.is(0, x.field(0));
        B.is(0, x.agrees(0));
        B.is(0, x.agrees(1));
    }

    private static void signsOutliveOtherChanges() {
        Probe x = Bounds.small();
        x.steady(10, 1);
        x.sign(5, 9);
        B.is(1, x.agrees(0));
        x.steady(100, 1);
        B.is(0, x.agrees(0));
        B.is(1, x.count(2));
        x.drop();
        B.is(1, x.agrees(0));
        x.shares(30, 30, 30);
        B.is(0, x.agrees(0));
        x.set(0, 2);
        B.is(1, x.agrees(0));
    }

    private static void fieldWhat() {
        B.outside(Bounds.used(), 0, 3, (y, what) -> y.field(what));
        B.outside(new Probe(), 0, 3, (y, what) -> y.field(what));
    }

    private static void fieldIs(Probe x, int agreed, int least, int odd, int day) {
        B.is(agreed, x.field(0));
        B.is(least, x.field(1));
        B.is(odd, x.field(2));
        B.is(day, x.field(3));
    }

    private static Probe noneAgrees() {
        Probe x = Bounds.small();
        x.sign(0, 8);
        return x;
    }

    /** By 1253 a day the level is 9 ahead of day 399, by 1256 just not; by any more it falls ahead of day 398. */
    private static Probe twoThatPartOnTheLastDay() {
        Probe x = Bounds.sized(5000);
        x.steady(100, 12);
        x.steady(50, 1);
        x.duty(TRY, 3, 1, 0, 5, 0);
        x.sign(398, 9);
        return x;
    }

    /** TRIES 4, so that tries 4 and 5 are alike on all days; signs rule out all but these. */
    private static Probe twoAlike() {
        Probe x = Bounds.small();
        x.duty(TRY, 9, 1, 0, 4, 0);
        x.sign(25, 1);
        x.sign(26, 0);
        return x;
    }

    private static void fieldHowManyAndLeast() {
        B.is(150, new Probe().field(0));
        B.is(0, new Probe().field(1));
        B.is(0, noneAgrees().field(0));
        B.is(NONE, noneAgrees().field(1));
        B.is(2, twoAlike().field(0));
        B.is(15, twoAlike().field(1));
        Probe last = Bounds.small();
        last.duty(TRY, 10, 1, 0, 5, 0);
        last.sign(6, 1);
        fieldIs(last, 1, 149, 1, NONE);
    }

    private static void odd() {
        B.is(0, new Probe().field(2));
        B.is(0, noneAgrees().field(2));
        Probe x = Bounds.small();
        x.sign(40, 2);
        fieldIs(x, 5, 1, 1, 0);
        Probe plain = Bounds.small();
        plain.sign(399, 9);
        fieldIs(plain, 5, 0, 0, 0);
        Probe both = Bounds.small();
        both.sign(5, 9);
        B.is(0, both.field(2));
        B.is(1, both.agrees(0));
        B.is(1, both.agrees(1));
        Probe most = Bounds.small();
        most.sign(12, 0);
        B.is(1, most.field(2));
        B.is(1, most.agrees(4));
    }

    private static void tellsMostOfNoTwo() {
        B.is(NONE, noneAgrees().field(3));
        Probe warm = twoThatPartOnTheLastDay();
        warm.sign(399, 9);
        fieldIs(warm, 1, 0, 0, NONE);
        Probe tried = twoThatPartOnTheLastDay();
        tried.sign(399, 8);
        fieldIs(tried, 1, 5, 0, NONE);
        fieldIs(twoAlike(), 2, 15, 0, 0);
    }

    private static void tellsMostOnTheLastDay() {
        fieldIs(twoThatPartOnTheLastDay(), 2, 0, 0, 399);
    }

    /** By 1250 a day the level is still 9 ahead of a day 400, by 1253 not; but no such day is asked for. */
    private static void tellsMostNotBehindTheLastDay() {
        Probe x = Bounds.sized(5000);
        x.steady(100, 12);
        x.steady(47, 1);
        x.duty(TRY, 3, 1, 0, 5, 0);
        x.sign(399, 9);
        fieldIs(x, 2, 0, 0, 0);
    }

    /** One try or two: a thousandth more a day, and the two fall together till the level of the row, where they part. */
    private static void tellsMostBehindDaysOfOneLevel() {
        int[][] rows = {
            {1265, 79, 8}, {1260, 119, 7}, {1273, 157, 6}, {1262, 198, 5},
            {1276, 235, 4}, {1263, 277, 3}, {1261, 317, 2}, {1264, 356, 1}
        };
        for (int[] row : rows) {
            Probe x = Bounds.sized(500);
            x.steady(100, 12);
            x.steady(row[0] - 1201, 1);
            x.duty(TRY, 1, 1, 0, 2, 0);
            x.sign(row[1] - 1, row[2]);
            B.is(row[2], x.level(0, row[1]));
            B.is(row[2] - 1, x.level(5, row[1]));
            fieldIs(x, 5, 0, 0, row[1]);
        }
    }

    /** What level() and agrees() say of every case and day, put together as the sentence tells; NONE if no two agree. */
    private static int dayByLevels(Probe x) {
        int[][] with = new int[400][10];
        int agreed = 0;
        Probe asked = x.again();
        for (int number = 0; number < 150; number++) {
            if (asked.agrees(number) == 0) continue;
            agreed++;
            Probe levels = x.again();
            for (int d = 0; d < 400; d++) with[d][levels.level(number, d)]++;
        }
        int best = NONE;
        for (int d = 399; d >= 0 && agreed > 1; d--) {
            if (best < 0 || greatest(with[d]) <= greatest(with[best])) best = d;
        }
        return best;
    }

    private static int greatest(int[] row) {
        int most = 0;
        for (int v : row) most = Math.max(most, v);
        return most;
    }

    private static void tellsMostAsLevelsSay() {
        Probe tried = Bounds.small();
        tried.duty(TRY, 30, 1, 0, 5, 0);
        tried.sign(1, 9);
        Probe dying = Bounds.small();
        dying.steady(100, 20);
        Probe cold = Bounds.sized(40);
        cold.season(12, 531440 / 2);
        cold.duty(TRY, 7, 2, 60, 3, 0);
        Probe emptyAheadOfIt = Bounds.sized(16);
        emptyAheadOfIt.set(1, 2);
        emptyAheadOfIt.duty(TRY, 50, 1, 0, 3, 0);
        emptyAheadOfIt.sign(50, 4);
        Probe[] cells = {
            new Probe(), Bounds.small(), Bounds.sized(5000), Bounds.used(), Bounds.fullOfDuties(), Bounds.fullOfSigns(),
            noneAgrees(), twoAlike(), twoThatPartOnTheLastDay(), tried, dying, cold,
            emptyAheadOfIt
        };
        for (Probe x : cells) {
            int due = dayByLevels(x);
            for (int again = 0; again < 2; again++) B.is(due, x.field(3));
        }
    }

    /** By 1300 a day the level falls ahead of day 385, by 1310 ahead of day 382: three days tell as much. */
    private static void tellsMostOfSeveralTheFirst() {
        Probe x = Bounds.sized(5000);
        x.steady(100, 12);
        x.steady(90, 1);
        x.duty(TRY, 10, 1, 0, 5, 0);
        x.sign(381, 9);
        fieldIs(x, 2, 0, 0, 382);
        B.is(9, x.level(0, 384));
        B.is(8, x.level(5, 384));
    }

    /** By 1300 .. 1302 a day the level falls ahead of day 385, by 1303 and 1304 a day sooner: 3 of 5 is least. */
    private static void tellsMostByTheGreatestNumber() {
        Probe x = Bounds.sized(5000);
        x.steady(100, 12);
        x.steady(99, 1);
        x.duty(TRY, 1, 1, 0, 5, 0);
        x.sign(383, 9);
        fieldIs(x, 5, 0, 0, 384);
    }

    private static void countWhat() {
        int[] empty = {0, 0, 0, 1000, 1, 50};
        Probe x = new Probe();
        for (int i = 0; i < 6; i++) B.is(empty[i], x.count(i));
        int[] duties = {8, 7, 3, 30, 3, 20};
        Probe y = Bounds.fullOfDuties();
        for (int i = 0; i < 6; i++) B.is(duties[i], y.count(i));
        int[] signs = {4, 3, 12, 30, 3, 20};
        Probe z = Bounds.fullOfSigns();
        for (int i = 0; i < 6; i++) B.is(signs[i], z.count(i));
        B.outside(Bounds.used(), 0, 5, (w, what) -> w.count(what));
    }

    public static void main(String[] args) {
        B.sentence("on a DAY 0 .. 399 a LEVEL was read", SignBoundsTests::signDays);
        B.sentence("a LEVEL 0 .. 9 was read", SignBoundsTests::signLevels);
        B.sentence("SIGNS (12 at most); FULL", SignBoundsTests::signs12AtMost);
        B.sentence("Refused, the first of these: BAD, STATE, FULL", SignBoundsTests::badAheadOfFull);
        B.sentence("forget: STATE: there is none", SignBoundsTests::forgetOfNone);
        B.sentence("The latest SIGN is gone: how many are left", SignBoundsTests::forgetOfTheLatest);
        B.sentence("LEVEL of a CASE (0 .. 149)", SignBoundsTests::levelNumbers);
        B.sentence("ahead of a DAY 0 .. 399. BAD", SignBoundsTests::levelDays);
        B.sentence("10 times its CHARGE then by that at first, rounded down", SignBoundsTests::levelRoundedDown);
        B.sentence("9 at most", SignBoundsTests::level9AtMost);
        B.sentence("0 where it does not LAST all DAYS ahead of that one", SignBoundsTests::level0WhereItDoesNotLast);
        B.sentence("LEVEL of a cell ahead of a DAY", SignBoundsTests::levelAheadOfTheDay);
        B.sentence("age a 0 .. 5 (LEAK that many thousandths more)", SignBoundsTests::ages);
        B.sentence("odd drain x 0 .. 4 (20 x more in S each DAY)", SignBoundsTests::oddDrains);
        B.sentence("tries t 1 .. 5", SignBoundsTests::triesOfCases);
        B.sentence("numbered 25 a + 5 (t - 1) + x", SignBoundsTests::caseNumbers);
        B.sentence("CASES: DUTIES that are ON", SignBoundsTests::casesOfDutiesThatAreOn);
        B.sentence("Whether a CASE AGREES. BAD", SignBoundsTests::agreesNumbers);
        B.sentence("A CASE AGREES: no SIGNS", SignBoundsTests::agreesWithoutSigns);
        B.sentence("if its LEVELS are those read, on all SIGNS' DAYS", SignBoundsTests::agreesOnAllSignsDays);
        B.sentence("on all SIGNS' DAYS: two SIGNS on one DAY", SignBoundsTests::twoSignsOnOneDay);
        B.sentence("A SIGN: how many there are", SignBoundsTests::signsOutliveOtherChanges);
        B.sentence("field: what 0 .. 3. BAD", SignBoundsTests::fieldWhat);
        B.sentence("How many CASES AGREE, the least of them (1; NONE)", SignBoundsTests::fieldHowManyAndLeast);
        B.sentence("ODD: some CASE AGREES, but none with x 0", SignBoundsTests::odd);
        B.sentence("NONE, if no two CASES AGREE", SignBoundsTests::tellsMostOfNoTwo);
        B.sentence("TELLS MOST: that DAY 0 .. 399", SignBoundsTests::tellsMostOnTheLastDay);
        B.sentence("DAY 0 .. 399: no day 400", SignBoundsTests::tellsMostNotBehindTheLastDay);
        B.sentence("TELLS MOST, behind days of one LEVEL", SignBoundsTests::tellsMostBehindDaysOfOneLevel);
        B.sentence("TELLS MOST, of the CASES that AGREE", SignBoundsTests::tellsMostAsLevelsSay);
        B.sentence("of several the first", SignBoundsTests::tellsMostOfSeveralTheFirst);
        B.sentence("the greatest number with one LEVEL is least", SignBoundsTests::tellsMostByTheGreatestNumber);
        B.sentence("count: 0 .. 5. BAD", SignBoundsTests::countWhat);
        B.end();
    }
}
