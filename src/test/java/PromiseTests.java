import java.util.function.ToIntFunction;

/** Each promise of the document by hand: ordinary inputs, the edges it names, and wrong inputs. */
public final class PromiseTests {
    private static final int BAD = CellDays.BAD, STATE = CellDays.STATE, FULL = CellDays.FULL, NONE = CellDays.NONE;
    private static final Due DUE = new Due();

    private static void is(String call, long due, long got) {
        DUE.is(call, due, got);
    }

    private static void refused(Probe x, String call, int due, ToIntFunction<Probe> made) {
        Probe called = x.again();
        is(call, due, made.applyAsInt(called));
        DUE.same("state behind " + call, x.again().seen(), called.seen());
    }

    private static void newObject() {
        Probe x = new Probe();
        int[] counts = {0, 0, 0, 1000, 1, 50};
        for (int i = 0; i < 6; i++) is("1 count", counts[i], x.count(i));
        is("1 trace", 0, x.trace());
        for (int d = 0; d < 400; d++) is("1 season of one warm place", 100, x.share(d));
        x.season(3, 21);
        is("1 warm", 100, x.share(0));
        is("1 cool", 90, x.share(1));
        is("1 cold", 70, x.share(2));
        is("1 no sign, so all agree", 150, x.field(0));
        is("1 no duty", 400, x.life(5));
        new Probe().set(0, 7);
        is("1 objects share nothing", 1000, new Probe().count(3));
    }

    private static void set() {
        Probe x = new Probe();
        int[][] rows = {{0, 1000, 1, 5000, 3}, {1, 1, 0, 20, 4}, {2, 50, 1, 500, 5}};
        for (int[] row : rows) {
            is("2 was", row[1], x.set(row[0], row[2]));
            is("2 least stands", row[2], x.count(row[4]));
            is("2 was least", row[2], x.set(row[0], row[3]));
            is("2 most stands", row[3], x.count(row[4]));
            refused(x, "2 below", BAD, y -> y.set(row[0], row[2] - 1));
            refused(x, "2 above", BAD, y -> y.set(row[0], row[3] + 1));
            refused(x, "2 far below", BAD, y -> y.set(row[0], Integer.MIN_VALUE));
            refused(x, "2 far above", BAD, y -> y.set(row[0], Integer.MAX_VALUE));
        }
        refused(x, "2 what -1", BAD, y -> y.set(-1, 5));
        refused(x, "2 what 3", BAD, y -> y.set(3, 5));
        is("2 full room holds", 5000000 - 100000, x.charge(0, 1));
    }

    private static void shares() {
        Probe x = new Probe();
        x.season(3, 21);
        is("3 taken", 1, x.shares(80, 60, 40));
        is("3 a", 80, x.share(0));
        is("3 b", 60, x.share(1));
        is("3 c", 40, x.share(2));
        is("3 least", 1, x.shares(10, 10, 10));
        is("3 most, all alike", 1, x.shares(100, 100, 100));
        refused(x, "3 a above", BAD, y -> y.shares(101, 50, 50));
        refused(x, "3 b above a", BAD, y -> y.shares(50, 51, 50));
        refused(x, "3 c above b", BAD, y -> y.shares(50, 40, 41));
        refused(x, "3 c below", BAD, y -> y.shares(50, 40, 9));
        refused(x, "3 b below", BAD, y -> y.shares(50, 9, 9));
        refused(x, "3 a below", BAD, y -> y.shares(9, 9, 9));
        refused(x, "3 negative", BAD, y -> y.shares(100, 50, Integer.MIN_VALUE));
    }

    private static void season() {
        Probe x = new Probe();
        is("4 n", 4, x.season(4, 2 + 3 * 1 + 9 * 0 + 27 * 1));
        int[] four = {70, 90, 100, 90};
        for (int d = 0; d < 400; d++) is("4 share of day " + d, four[d % 4], x.share(d));
        is("4 longest", 12, x.season(12, 531440));
        is("4 all cold", 70, x.share(11));
        is("4 shorter again", 2, x.season(2, 0));
        is("4 places beyond are gone", 100, x.share(11));
        is("4 longer with no digits", 12, x.season(12, 0));
        for (int d = 0; d < 12; d++) is("4 zero digits are warm", 100, x.share(d));
        is("4 greatest of one", 1, x.season(1, 2));
        refused(x, "4 3^1", BAD, y -> y.season(1, 3));
        refused(x, "4 3^12", BAD, y -> y.season(12, 531441));
        refused(x, "4 3^5", BAD, y -> y.season(5, 243));
        refused(x, "4 number below", BAD, y -> y.season(5, -1));
        refused(x, "4 n 0", BAD, y -> y.season(0, 0));
        refused(x, "4 n 13", BAD, y -> y.season(13, 0));
        refused(x, "4 n least of all", BAD, y -> y.season(Integer.MIN_VALUE, 0));
        refused(x, "4 n most of all", BAD, y -> y.season(Integer.MAX_VALUE, 0));
    }

    private static void share() {
        Probe x = new Probe();
        x.season(7, 3 * 3 * 3 * 3 * 3 * 3 * 2);
        is("5 day 0", 100, x.share(0));
        is("5 day 6", 70, x.share(6));
        is("5 day 398, place 6", 70, x.share(398));
        is("5 day 399, place 0", 100, x.share(399));
        refused(x, "5 day -1", BAD, y -> y.share(-1));
        refused(x, "5 day 400", BAD, y -> y.share(400));
        refused(x, "5 least day", BAD, y -> y.share(Integer.MIN_VALUE));
    }

    private static void duty() {
        Probe x = new Probe();
        is("6 steady, peak and tries not looked at", 0, x.duty(0, 1, 1, -7, 77, 0));
        is("6 burst, tries not looked at", 1, x.duty(1, 100, 20, 100, -7, 100));
        is("6 try", 2, x.duty(2, 50, 10, 0, 5, 50));
        is("6 all ON", 3, x.count(1));
        is("6 peak of steady drains nothing", 1, x.drain(0, 5));
        int[][] wrong = {
            {-1, 1, 1, 1, 1, 1}, {3, 1, 1, 1, 1, 1}, {0, 0, 1, 1, 1, 1}, {0, 101, 1, 1, 1, 1},
            {0, 1, 0, 1, 1, 1}, {0, 1, 21, 1, 1, 1}, {1, 1, 1, -1, 1, 1}, {1, 1, 1, 101, 1, 1},
            {2, 1, 1, -1, 1, 1}, {2, 1, 1, 101, 1, 1}, {2, 1, 1, 1, 0, 1}, {2, 1, 1, 1, 6, 1},
            {0, 1, 1, 1, 1, -1}, {0, 1, 1, 1, 1, 101}, {1, 1, 1, 1, 1, 101}, {2, 1, 1, 1, 1, -1},
        };
        for (int[] w : wrong) refused(x, "6 wrong", BAD, y -> y.duty(w[0], w[1], w[2], w[3], w[4], w[5]));
        for (int i = 3; i < 8; i++) is("6 number", i, x.duty(2, 1, 1, 0, 1, 1));
        refused(x, "6 ninth", FULL, y -> y.duty(0, 1, 1, 1, 1, 1));
        for (int[] w : wrong) refused(x, "6 BAD ahead of FULL", BAD, y -> y.duty(w[0], w[1], w[2], w[3], w[4], w[5]));
        x.drop();
        is("6 a number is used again", 7, x.duty(0, 1, 1, 1, 1, 1));
    }

    private static void on() {
        Probe x = Bounds.small();
        x.duty(0, 100, 1, 0, 0, 1);
        x.duty(0, 50, 1, 0, 0, 1);
        is("7 was ON", 1, x.on(0, false));
        is("7 only the other drains", 20, x.life(1));
        is("7 was off", 0, x.on(0, false));
        is("7 one ON", 1, x.count(1));
        is("7 was off", 0, x.on(0, true));
        is("7 was ON", 1, x.on(0, true));
        is("7 both drain", 6, x.life(1));
        refused(x, "7 no such", BAD, y -> y.on(2, false));
        refused(x, "7 below", BAD, y -> y.on(-1, false));
        refused(x, "7 far", BAD, y -> y.on(Integer.MAX_VALUE, false));
    }

    private static void drop() {
        Probe x = Bounds.small();
        refused(x, "8 none", STATE, Probe::drop);
        x.duty(0, 100, 1, 0, 0, 1);
        x.duty(0, 50, 1, 0, 0, 1);
        x.on(1, false);
        is("8 one left", 1, x.drop());
        is("8 the latest went", 10, x.life(1));
        is("8 a new one is ON", 1, x.duty(0, 50, 1, 0, 0, 1));
        is("8 both ON", 2, x.count(1));
        is("8 one left", 1, x.drop());
        is("8 none left", 0, x.drop());
        refused(x, "8 gone", BAD, y -> y.on(0, true));
        refused(x, "8 none again", STATE, Probe::drop);
    }

    private static void drain() {
        Probe x = new Probe();
        x.duty(0, 7, 6, 90, 1, 0);
        x.duty(1, 7, 6, 50, 1, 0);
        x.duty(1, 7, 6, 51, 1, 0);
        x.duty(2, 7, 6, 60, 3, 0);
        for (int t = 1; t <= 5; t++) {
            is("9 steady", 42, x.drain(0, t));
            is("9 burst at the bar", 92, x.drain(1, t));
            is("9 burst above the bar", 94, x.drain(2, t));
        }
        is("9 try once", 112, x.drain(3, 1));
        is("9 try three times", 336, x.drain(3, 3));
        refused(x, "9 above TRIES", BAD, y -> y.drain(3, 4));
        refused(x, "9 t 5 of 3", BAD, y -> y.drain(3, 5));
        for (int i = 0; i < 4; i++) {
            int number = i;
            refused(x, "9 t 0", BAD, y -> y.drain(number, 0));
            refused(x, "9 t 6", BAD, y -> y.drain(number, 6));
        }
        refused(x, "9 no such", BAD, y -> y.drain(4, 1));
        refused(x, "9 below", BAD, y -> y.drain(-1, 1));
        x.set(2, 500);
        is("9 a bar above all peaks", 102, x.drain(3, 1));
        x.set(2, 1);
        is("9 a bar below", 161, x.drain(3, 1));
        x.on(3, false);
        is("9 of one that is off", 161, x.drain(3, 1));
    }

    private static void life() {
        Probe x = Bounds.small();
        is("10 at most 400", 400, x.life(1));
        x.duty(0, 100, 1, 0, 0, 1);
        is("10 down to 0 just lasts", 10, x.life(3));
        x.shares(70, 70, 70);
        is("10 143 a day, rounded up", 6, x.life(3));
        x.shares(100, 100, 100);
        x.drop();
        x.duty(2, 10, 1, 0, 3, 1);
        int[] byTries = {100, 50, 33, 33, 33};
        for (int t = 1; t <= 5; t++) is("10 by " + t, byTries[t - 1], x.life(t));
        refused(x, "10 t 0", BAD, y -> y.life(0));
        refused(x, "10 t 6", BAD, y -> y.life(6));
        refused(x, "10 t far", BAD, y -> y.life(Integer.MIN_VALUE));
        x.set(0, 4);
        is("10 just 400", 400, x.life(1));
        x.drop();
        x.duty(0, 5, 20, 0, 0, 1);
        x.duty(0, 100, 19, 0, 0, 1);
        x.duty(0, 100, 20, 0, 0, 1);
        is("10 4000 in one day", 1, x.life(1));
        x.duty(0, 1, 1, 0, 0, 1);
        is("10 none", 0, x.life(1));
    }

    private static void charge() {
        Probe x = Bounds.small();
        x.set(1, 20);
        int[] leaking = {980, 960, 940, 921};
        for (int d = 0; d < 4; d++) is("11 leak rounded up", leaking[d], x.charge(d, 1));
        x.duty(0, 100, 1, 0, 0, 1);
        is("11 leak first, then drains", 880, x.charge(0, 1));
        is("11 leak of what is left", 762, x.charge(1, 1));
        x.set(1, 0);
        x.season(2, 5);
        is("11 cold day", 857, x.charge(0, 1));
        is("11 then a cool one", 745, x.charge(1, 1));
        x.season(1, 0);
        is("11 one day to go", 100, x.charge(8, 1));
        is("11 lasts with 0", 0, x.charge(9, 1));
        is("11 does not last", 0, x.charge(10, 1));
        is("11 nor on the last day", 0, x.charge(399, 1));
        x.drop();
        x.duty(2, 10, 1, 0, 2, 1);
        is("11 by 1", 990, x.charge(0, 1));
        is("11 by 2", 980, x.charge(0, 2));
        is("11 by 5 of 2", 980, x.charge(0, 5));
        refused(x, "11 day -1", BAD, y -> y.charge(-1, 1));
        refused(x, "11 day 400", BAD, y -> y.charge(400, 1));
        refused(x, "11 t 0", BAD, y -> y.charge(0, 0));
        refused(x, "11 t 6", BAD, y -> y.charge(0, 6));
        refused(x, "11 greatest day", BAD, y -> y.charge(Integer.MAX_VALUE, 1));
    }

    private static void price() {
        Probe x = Bounds.small();
        x.duty(0, 100, 1, 0, 0, 1);
        x.duty(0, 50, 1, 0, 0, 1);
        is("12 of the first", 20 - 6, x.price(0));
        is("12 of the second", 10 - 6, x.price(1));
        x.on(1, false);
        is("12 of one that is off", 10 - 6, x.price(1));
        is("12 beside one that is off", 400 - 10, x.price(0));
        is("12 it stays off", 1, x.count(1));
        x.duty(2, 10, 1, 0, 4, 1);
        is("12 SURE means all tries", 10 - 7, x.price(2));
        refused(x, "12 no such", BAD, y -> y.price(3));
        refused(x, "12 below", BAD, y -> y.price(-1));
        refused(x, "12 far", BAD, y -> y.price(32));
    }

    private static void planned(Probe x, int n, int set, int worth, int sure) {
        is("13 set for " + n, set, x.plan(n, 0));
        is("13 worth for " + n, worth, x.plan(n, 1));
        is("13 sure for " + n, sure, x.plan(n, 2));
    }

    private static void plan() {
        Probe x = Bounds.small();
        planned(x, 400, 0, 0, 400);
        x.duty(0, 100, 1, 0, 0, 5);
        x.duty(0, 50, 1, 0, 0, 5);
        x.duty(0, 20, 1, 0, 0, 0);
        for (int round = 0; round < 2; round++) {
            planned(x, 1, 3, 10, 6);
            planned(x, 6, 3, 10, 6);
            planned(x, 7, 1, 5, 10);
            planned(x, 10, 1, 5, 10);
            planned(x, 11, 2, 5, 20);
            planned(x, 20, 2, 5, 20);
            planned(x, 21, 0, 0, 400);
            x.on(0, false);
            x.on(1, false);
        }
        x.duty(2, 5, 1, 0, 4, 7);
        planned(x, 50, 8, 7, 50);
        planned(x, 51, 0, 0, 400);
        refused(x, "13 n 0", BAD, y -> y.plan(0, 0));
        refused(x, "13 n 401", BAD, y -> y.plan(401, 0));
        refused(x, "13 what -1", BAD, y -> y.plan(1, -1));
        refused(x, "13 what 3", BAD, y -> y.plan(1, 3));
        Probe all = new Probe();
        for (int i = 0; i < 8; i++) all.duty(0, 1, 1, 0, 0, 100);
        planned(all, 400, 255, 800, 400);
    }

    private static void sign() {
        Probe x = Bounds.small();
        is("14 first", 1, x.sign(0, 9));
        is("14 on the same day", 2, x.sign(0, 9));
        is("14 last day", 3, x.sign(399, 0));
        refused(x, "14 day -1", BAD, y -> y.sign(-1, 0));
        refused(x, "14 day 400", BAD, y -> y.sign(400, 0));
        refused(x, "14 level -1", BAD, y -> y.sign(0, -1));
        refused(x, "14 level 10", BAD, y -> y.sign(0, 10));
        for (int i = 4; i <= 12; i++) is("14 more", i, x.sign(400 - i, 0));
        refused(x, "14 thirteenth", FULL, y -> y.sign(0, 9));
        refused(x, "14 BAD ahead of FULL", BAD, y -> y.sign(400, 9));
        is("14 as many as told", 12, x.count(2));
    }

    private static void forget() {
        Probe x = Bounds.small();
        refused(x, "15 none", STATE, Probe::forget);
        x.sign(300, 9);
        x.sign(0, 0);
        is("15 no case has 0 at first", 0, x.field(0));
        is("15 the latest went", 1, x.forget());
        is("15 the sign of day 300 stands", 5, x.field(0));
        is("15 none left", 0, x.forget());
        is("15 all agree again", 150, x.field(0));
        refused(x, "15 none again", STATE, Probe::forget);
    }

    private static void level() {
        Probe x = Bounds.small();
        x.duty(2, 10, 1, 0, 3, 1);
        int[][] rows = {
            {0, 0, 9}, {149, 0, 9}, {0, 10, 9}, {0, 11, 8}, {0, 90, 1}, {0, 91, 0}, {0, 100, 0}, {0, 101, 0}, {0, 399, 0},
            {5, 5, 9}, {5, 6, 8}, {10, 3, 9}, {10, 4, 8}, {15, 3, 9}, {15, 4, 8}, {20, 4, 8},
            {1, 3, 9}, {1, 4, 8}, {4, 1, 9}, {4, 2, 8}, {4, 10, 1}, {4, 11, 0},
            {125, 6, 9}, {125, 7, 8}, {25, 9, 9}, {25, 10, 8},
        };
        for (int[] r : rows) is("16 level(" + r[0] + ", " + r[1] + ")", r[2], x.level(r[0], r[1]));
        x.shares(50, 50, 50);
        is("16 odd drain wastes too", 8, x.level(1, 2));
        x.on(0, false);
        is("16 what is off drains nothing", 9, x.level(20, 399));
        refused(x, "16 number -1", BAD, y -> y.level(-1, 0));
        refused(x, "16 number 150", BAD, y -> y.level(150, 0));
        refused(x, "16 day -1", BAD, y -> y.level(0, -1));
        refused(x, "16 day 400", BAD, y -> y.level(0, 400));
    }

    private static void agrees() {
        Probe x = Bounds.small();
        x.duty(2, 10, 1, 0, 3, 1);
        is("17 no sign", 1, x.agrees(149));
        x.sign(7, 8);
        is("17 age 5", 1, x.agrees(125));
        is("17 age 0", 0, x.agrees(0));
        x.sign(6, 9);
        is("17 an earlier day told later", 1, x.agrees(125));
        is("17 level 8 on day 6", 0, x.agrees(5));
        x.sign(7, 9);
        is("17 two levels on one day", 0, x.agrees(125));
        refused(x, "17 number -1", BAD, y -> y.agrees(-1));
        refused(x, "17 number 150", BAD, y -> y.agrees(150));
    }

    private static void fields(Probe x, String when, int agreed, int least, int odd, int day) {
        is("18 agreed, " + when, agreed, x.field(0));
        is("18 least, " + when, least, x.field(1));
        is("18 odd, " + when, odd, x.field(2));
        is("18 tells most, " + when, day, x.field(3));
    }

    /** Without duties the tries change nothing, so cases come in fives; 20 a day is x 1. */
    private static void field() {
        Probe x = Bounds.small();
        x.sign(40, 2);
        fields(x, "only x 1 of age 0, all alike on all days", 5, 1, 1, 0);
        x.sign(40, 3);
        fields(x, "none", 0, NONE, 0, NONE);
        x.forget();
        x.forget();
        x.sign(399, 9);
        fields(x, "only x 0 of age 0", 5, 0, 0, 0);
        x.forget();
        x.sign(0, 9);
        x.sign(20, 5);
        fields(x, "x 1 of ages 1 to 5", 25, 26, 1, 9);
        refused(x, "18 what -1", BAD, y -> y.field(-1));
        refused(x, "18 what 4", BAD, y -> y.field(4));
    }

    /** With tries that all drain otherwise, signs can leave a single case, or just two. */
    private static void fieldOfFew() {
        Probe x = new Probe();
        x.set(0, 1);
        x.set(1, 0);
        x.duty(2, 1, 1, 0, 5, 1);
        x.sign(399, 6);
        fields(x, "one case", 1, 0, 0, NONE);
        x.forget();
        x.sign(399, 2);
        fields(x, "two cases, 2 a day by tries or by age", 2, 5, 0, 0);
        x.forget();
        x.sign(34, 1);
        x.sign(25, 4);
        fields(x, "three that part behind level 1, two at 88 and one at 105", 3, 16, 1, 38);
    }

    private static void count() {
        Probe x = new Probe();
        x.duty(0, 1, 1, 0, 0, 1);
        x.duty(0, 1, 1, 0, 0, 1);
        x.duty(0, 1, 1, 0, 0, 1);
        x.on(1, false);
        x.sign(1, 9);
        x.set(0, 77);
        x.set(1, 11);
        x.set(2, 99);
        int[] due = {3, 2, 1, 77, 11, 99};
        for (int i = 0; i < 6; i++) is("19 count(" + i + ")", due[i], x.count(i));
        refused(x, "19 what -1", BAD, y -> y.count(-1));
        refused(x, "19 what 6", BAD, y -> y.count(6));
    }

    private static void trace() {
        Probe x = new Probe();
        x.duty(0, 1, 1, 0, 0, 1);
        x.duty(1, 1, 1, 9, 0, 1);
        x.duty(2, 1, 1, 9, 2, 1);
        x.life(5);
        x.plan(1, 0);
        x.field(3);
        is("20 only drain() comes to it", 0, x.trace());
        x.drain(0, 1);
        is("20 steady", 1, x.trace());
        x.drain(1, 5);
        is("20 burst and the one over it", 12, x.trace());
        x.drain(2, 2);
        is("20 try and both over it, once each", 123, x.trace());
        x.drain(2, 3);
        x.drain(0, 6);
        x.drain(3, 1);
        is("20 refused calls leave it", 123, x.trace());
        x.drop();
        is("20 it outlives a duty", 123, x.trace());
    }

    public static void main(String[] args) {
        newObject();
        set();
        shares();
        season();
        share();
        duty();
        on();
        drop();
        drain();
        life();
        charge();
        price();
        plan();
        sign();
        forget();
        level();
        agrees();
        field();
        fieldOfFew();
        count();
        trace();
        DUE.end();
    }
}
