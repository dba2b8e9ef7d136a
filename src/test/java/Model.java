import java.util.ArrayList;
import java.util.List;

/**
 * The document told once more, as plainly as can be and without a thought for speed,
 * to lay the class's answers against. Shares no code with the class.
 */
final class Model {
    static final int BAD = -1, STATE = -2, FULL = -3, NONE = -9;

    abstract static class Kind {
        int load, times, peak, tries, worth;
        boolean on = true;

        abstract long drain(Model m, int t, boolean traced);
    }

    static class Steady extends Kind {
        long drain(Model m, int t, boolean traced) {
            if (traced) m.trace += 1;
            return (long) load * times;
        }
    }

    static class Burst extends Steady {
        @Override long drain(Model m, int t, boolean traced) {
            if (traced) m.trace += 10;
            long sum = super.drain(m, t, traced) + peak;
            return peak > m.bar ? sum + (peak - m.bar) : sum;
        }
    }

    static class Tried extends Burst {
        @Override long drain(Model m, int t, boolean traced) {
            if (traced) m.trace += 100;
            return super.drain(m, t, traced) * t;
        }
    }

    int room = 1000, leak = 1, bar = 50;
    int[] shares = {100, 90, 70};
    int[] season = {0};
    List<Kind> duties = new ArrayList<>();
    List<int[]> signs = new ArrayList<>();
    long trace = 0;

    static boolean out(int v, int least, int most) {
        return v < least || v > most;
    }

    int set(int what, int v) {
        int was;
        switch (what) {
            case 0: if (out(v, 1, 5000)) return BAD; was = room; room = v; return was;
            case 1: if (out(v, 0, 20)) return BAD; was = leak; leak = v; return was;
            case 2: if (out(v, 1, 500)) return BAD; was = bar; bar = v; return was;
            default: return BAD;
        }
    }

    int shares(int a, int b, int c) {
        if (out(a, 10, 100) || out(b, 10, 100) || out(c, 10, 100) || b > a || c > b) return BAD;
        shares = new int[] {a, b, c};
        return 1;
    }

    int season(int n, int digits) {
        if (out(n, 1, 12) || digits < 0 || digits >= Math.pow(3, n)) return BAD;
        String text = Integer.toString(digits, 3);
        season = new int[n];
        for (int i = 0; i < text.length(); i++) season[i] = text.charAt(text.length() - 1 - i) - '0';
        return n;
    }

    int share(int day) {
        return out(day, 0, 399) ? BAD : shares[season[day % season.length]];
    }

    int duty(int kind, int load, int times, int peak, int tries, int worth) {
        if (out(kind, 0, 2) || out(load, 1, 100) || out(times, 1, 20) || out(worth, 0, 100)) return BAD;
        if (kind >= 1 && out(peak, 0, 100) || kind == 2 && out(tries, 1, 5)) return BAD;
        if (duties.size() == 8) return FULL;
        Kind made = kind == 0 ? new Steady() : kind == 1 ? new Burst() : new Tried();
        made.load = load;
        made.times = times;
        made.peak = peak;
        made.tries = tries;
        made.worth = worth;
        duties.add(made);
        return duties.size() - 1;
    }

    int on(int duty, boolean is) {
        if (out(duty, 0, duties.size() - 1)) return BAD;
        boolean was = duties.get(duty).on;
        duties.get(duty).on = is;
        return was ? 1 : 0;
    }

    int drop() {
        if (duties.isEmpty()) return STATE;
        duties.remove(duties.size() - 1);
        return duties.size();
    }

    int drain(int duty, int t) {
        if (out(duty, 0, duties.size() - 1) || out(t, 1, 5)) return BAD;
        Kind told = duties.get(duty);
        if (told instanceof Tried && t > told.tries) return BAD;
        return (int) told.drain(this, t, true);
    }

    long sum(boolean[] in, int t) {
        long sum = 0;
        for (int i = 0; i < duties.size(); i++) {
            if (in[i]) sum += duties.get(i).drain(this, Math.min(t, duties.get(i).tries), false);
        }
        return sum;
    }

    boolean[] lit() {
        boolean[] in = new boolean[duties.size()];
        for (int i = 0; i < in.length; i++) in[i] = duties.get(i).on;
        return in;
    }

    static long up(long a, long b) {
        return a % b == 0 ? a / b : a / b + 1;
    }

    /** Charge ahead of the days 0 .. 400; -1 from where it did not last on. */
    long[] walk(int leaking, long s) {
        long[] ahead = new long[401];
        ahead[0] = room * 1000L;
        for (int d = 0; d < 400; d++) {
            long c = ahead[d];
            if (c >= 0) {
                c -= up(c * leaking, 1000);
                c -= up(s * 100, share(d));
            }
            ahead[d + 1] = c < 0 ? -1 : c;
        }
        return ahead;
    }

    int lasted(boolean[] in, int t) {
        long[] ahead = walk(leak, sum(in, t));
        int days = 0;
        while (days < 400 && ahead[days + 1] >= 0) days++;
        return days;
    }

    int life(int t) {
        return out(t, 1, 5) ? BAD : lasted(lit(), t);
    }

    int charge(int day, int t) {
        if (out(day, 0, 399) || out(t, 1, 5)) return BAD;
        return (int) Math.max(0, walk(leak, sum(lit(), t))[day + 1]);
    }

    int price(int duty) {
        if (out(duty, 0, duties.size() - 1)) return BAD;
        boolean[] with = lit(), without = lit();
        with[duty] = true;
        without[duty] = false;
        return lasted(without, 5) - lasted(with, 5);
    }

    int plan(int n, int what) {
        if (out(n, 1, 400) || out(what, 0, 2)) return BAD;
        int best = NONE, most = 0, sure = 0;
        for (int set = (1 << duties.size()) - 1; set >= 0; set--) {
            boolean[] in = new boolean[duties.size()];
            int worth = 0;
            for (int i = 0; i < in.length; i++) {
                in[i] = (set & 1 << i) != 0;
                if (in[i]) worth += duties.get(i).worth;
            }
            int days = lasted(in, 5);
            if (days >= n && (best == NONE || worth >= most)) {
                best = set;
                most = worth;
                sure = days;
            }
        }
        return best == NONE ? NONE : what == 0 ? best : what == 1 ? most : sure;
    }

    int sign(int day, int level) {
        if (out(day, 0, 399) || out(level, 0, 9)) return BAD;
        if (signs.size() == 12) return FULL;
        signs.add(new int[] {day, level});
        return signs.size();
    }

    int forget() {
        if (signs.isEmpty()) return STATE;
        signs.remove(signs.size() - 1);
        return signs.size();
    }

    /** Levels of one case ahead of the days 0 .. 399. */
    int[] levels(int number) {
        int a = number / 25, t = number % 25 / 5 + 1, x = number % 5;
        long[] ahead = walk(leak + a, sum(lit(), t) + 20L * x);
        int[] levels = new int[400];
        for (int d = 0; d < 400; d++) {
            levels[d] = ahead[d] < 0 ? 0 : (int) Math.min(9, 10 * ahead[d] / ahead[0]);
        }
        return levels;
    }

    int level(int number, int day) {
        return out(number, 0, 149) || out(day, 0, 399) ? BAD : levels(number)[day];
    }

    boolean fits(int[] levels) {
        for (int[] sign : signs) if (levels[sign[0]] != sign[1]) return false;
        return true;
    }

    int agrees(int number) {
        return out(number, 0, 149) ? BAD : fits(levels(number)) ? 1 : 0;
    }

    int field(int what) {
        if (out(what, 0, 3)) return BAD;
        int agreed = 0, least = NONE;
        boolean plain = false;
        int[][] with = new int[400][10];
        for (int number = 149; number >= 0; number--) {
            int[] levels = levels(number);
            if (!fits(levels)) continue;
            agreed++;
            least = number;
            plain |= number % 5 == 0;
            for (int d = 0; d < 400; d++) with[d][levels[d]]++;
        }
        if (what == 0) return agreed;
        if (what == 1) return least;
        if (what == 2) return agreed > 0 && !plain ? 1 : 0;
        return agreed < 2 ? NONE : tells(with);
    }

    private static int tells(int[][] with) {
        int day = 0, fewest = Integer.MAX_VALUE;
        for (int d = 399; d >= 0; d--) {
            int greatest = 0;
            for (int n : with[d]) greatest = Math.max(greatest, n);
            if (greatest <= fewest) {
                fewest = greatest;
                day = d;
            }
        }
        return day;
    }

    int count(int what) {
        int lit = 0;
        for (boolean on : lit()) if (on) lit++;
        int[] all = {duties.size(), lit, signs.size(), room, leak, bar};
        return out(what, 0, 5) ? BAD : all[what];
    }
}
