/** Long runs of calls, always the same ones, laid against the model. */
public final class ModelTests {
    /** A round makes two calls at most, so a run stays within the 512 that are promised. */
    private static final int RUNS = 300, ROUNDS = 250;

    private final Due due = new Due();
    private long seed = 20261116L;
    private CellDays x;
    private Model m;
    private int run;
    private int few, odd, alone, told;

    /** A row of numbers that looks like chance and is the same each time. */
    private int pick(int least, int most) {
        seed = seed * 6364136223846793005L + 1442695040888963407L;
        return least + (int) ((seed >>> 33) % (most - least + 1));
    }

    /** Mostly a number within the bounds, now and then an edge or one outside. */
    private int near(int least, int most) {
        switch (pick(0, 23)) {
            case 0: return least;
            case 1: return most;
            case 2: return least - 1;
            case 3: return most + 1;
            case 4: return pick(0, 6) == 0 ? Integer.MIN_VALUE : pick(least, most);
            case 5: return pick(0, 6) == 0 ? Integer.MAX_VALUE : pick(least, most);
            default: return pick(least, most);
        }
    }

    private void look(String call, long want, long got) {
        due.is("run " + run + ": " + call, want, got);
    }

    private void cell() {
        int a = near(0, 2);
        switch (pick(0, 3)) {
            case 0: {
                int v = a == 0 ? (pick(0, 1) == 0 ? near(1, 60) : near(1, 5000)) : a == 1 ? near(0, 20) : near(1, 500);
                if (a == 2 && pick(0, 1) == 0) v = near(1, 100);
                look("set(" + a + ", " + v + ")", m.set(a, v), x.set(a, v));
                break;
            }
            case 1: {
                int s = near(10, 100), t = pick(0, 5) == 0 ? near(10, 100) : near(10, Math.max(10, s));
                int u = near(10, Math.max(10, t));
                look("shares(" + s + ", " + t + ", " + u + ")", m.shares(s, t, u), x.shares(s, t, u));
                break;
            }
            case 2: {
                int n = near(1, 12);
                int d = near(0, (int) Math.pow(3, Math.max(1, Math.min(12, n))) - 1);
                look("season(" + n + ", " + d + ")", m.season(n, d), x.season(n, d));
                break;
            }
            default: {
                int d = near(0, 399);
                look("share(" + d + ")", m.share(d), x.share(d));
            }
        }
    }

    private void addDuty() {
        int k = near(0, 2), peak = near(0, 100), tries = near(1, 5), worth = pick(0, 2) == 0 ? near(0, 3) : near(0, 100);
        int load = pick(0, 2) == 0 ? near(1, 100) : near(1, 12), times = pick(0, 2) == 0 ? near(1, 20) : near(1, 4);
        look("duty(" + k + ", " + load + ", " + times + ", " + peak + ", " + tries + ", " + worth + ")",
            m.duty(k, load, times, peak, tries, worth), x.duty(k, load, times, peak, tries, worth));
    }

    private void duties() {
        int i = near(0, Math.max(0, m.duties.size() - 1)), t = near(1, 5);
        boolean is = pick(0, 1) == 0;
        switch (pick(0, 6)) {
            case 0: case 1: look("on(" + i + ", " + is + ")", m.on(i, is), x.on(i, is)); break;
            case 2: look("drop()", m.drop(), x.drop()); break;
            case 3: case 4: look("drain(" + i + ", " + t + ")", m.drain(i, t), x.drain(i, t)); break;
            default: addDuty();
        }
    }

    private void lives() {
        int i = near(0, Math.max(0, m.duties.size() - 1)), t = near(1, 5);
        int life = m.life(1);
        int day = pick(0, 1) == 0 ? near(0, 399) : near(Math.max(0, life - 3), Math.min(399, life + 1));
        int n = pick(0, 1) == 0 ? near(1, 400) : near(1, Math.max(1, life)), what = near(0, 2);
        switch (pick(0, 3)) {
            case 0: look("life(" + t + ")", m.life(t), x.life(t)); break;
            case 1: look("charge(" + day + ", " + t + ")", m.charge(day, t), x.charge(day, t)); break;
            case 2: look("price(" + i + ")", m.price(i), x.price(i)); break;
            default: look("plan(" + n + ", " + what + ")", m.plan(n, what), x.plan(n, what));
        }
    }

    private void signs() {
        int number = near(0, 149), day = pick(0, 1) == 0 ? near(0, 399) : near(0, 60);
        switch (pick(0, 5)) {
            case 0: case 1: addSign(); break;
            case 2: look("forget()", m.forget(), x.forget()); break;
            case 3: look("level(" + number + ", " + day + ")", m.level(number, day), x.level(number, day)); break;
            case 4: look("agrees(" + number + ")", m.agrees(number), x.agrees(number)); break;
            default: field(near(0, 3));
        }
    }

    /** A sign that some agreeing case shows, so that a run of signs seldom rules out all of them. */
    private void addSign() {
        int number = pick(0, 149);
        for (int i = 0; i < 150 && m.agrees(number) == 0; i++) number = (number + 1) % 150;
        int day = pick(0, 1) == 0 ? near(0, 399) : near(0, 60);
        int level = pick(0, 9) == 0 ? near(0, 9) : Math.max(0, m.level(number, day));
        look("sign(" + day + ", " + level + ")", m.sign(day, level), x.sign(day, level));
    }

    private void field(int what) {
        int want = m.field(what);
        look("field(" + what + ")", want, x.field(what));
        if (what == 0 && want > 1 && want < 150) few++;
        if (what == 0 && want == 1) alone++;
        if (what == 2 && want == 1) odd++;
        if (what == 3 && want > 0) told++;
    }

    private void call() {
        switch (pick(0, 11)) {
            case 0: cell(); break;
            case 1: case 2: case 3: duties(); break;
            case 4: case 5: case 6: lives(); break;
            case 7: case 8: case 9: case 10: signs(); break;
            default: {
                int what = near(0, 5);
                look("count(" + what + ")", m.count(what), x.count(what));
                look("trace()", m.trace, x.trace());
            }
        }
    }

    private void all() {
        for (run = 1; run <= RUNS; run++) {
            x = new CellDays();
            m = new Model();
            if (pick(0, 2) > 0) {
                int room = pick(1, 80), leak = pick(0, 4);
                look("set(0, " + room + ")", m.set(0, room), x.set(0, room));
                look("set(1, " + leak + ")", m.set(1, leak), x.set(1, leak));
            }
            for (int i = 0; i < ROUNDS; i++) {
                call();
            }
        }
        due.holds("the runs meet fields of few, one and odd cases, and days that tell", few > 50 && alone > 0 && odd > 5 && told > 50);
        System.out.println("fields: " + few + " few, " + alone + " alone, " + odd + " odd, " + told + " told");
        due.end();
    }

    public static void main(String[] args) {
        new ModelTests().all();
    }
}
