import java.util.ArrayList;
import java.util.List;
import java.util.function.ToIntFunction;

/**
 * A CellDays whose calls are counted, as the document promises nothing of a 513th,
 * and whose changes can be made again on a new one.
 */
final class Probe {
    static final int MOST_CALLS = 512;

    private static String latest = "";

    private final CellDays cell = new CellDays();
    private final List<ToIntFunction<CellDays>> changes = new ArrayList<>();
    private int calls = 0;

    /** The text of the call that was made last, on whichever probe. */
    static String latest() {
        return latest;
    }

    int calls() {
        return calls;
    }

    private void tally(String name, Object... values) {
        calls++;
        if (calls > MOST_CALLS) {
            throw new IllegalStateException("the test makes more than 512 calls on one object");
        }
        StringBuilder text = new StringBuilder(name).append('(');
        for (int i = 0; i < values.length; i++) {
            text.append(i == 0 ? "" : ", ").append(values[i]);
        }
        latest = text.append(')').toString();
    }

    private int change(ToIntFunction<CellDays> made) {
        changes.add(made);
        return made.applyAsInt(cell);
    }

    /** A new one behind the same changes. */
    Probe again() {
        Probe other = new Probe();
        for (ToIntFunction<CellDays> made : changes) {
            other.tally("again");
            other.change(made);
        }
        return other;
    }

    int set(int what, int v) {
        tally("set", what, v);
        return change(y -> y.set(what, v));
    }

    int shares(int a, int b, int c) {
        tally("shares", a, b, c);
        return change(y -> y.shares(a, b, c));
    }

    int season(int n, int digits) {
        tally("season", n, digits);
        return change(y -> y.season(n, digits));
    }

    int share(int day) {
        tally("share", day);
        return cell.share(day);
    }

    int duty(int kind, int load, int times, int peak, int tries, int worth) {
        tally("duty", kind, load, times, peak, tries, worth);
        return change(y -> y.duty(kind, load, times, peak, tries, worth));
    }

    /** A STEADY duty that drains so much a day, without worth. */
    int steady(int load, int times) {
        return duty(0, load, times, 0, 1, 0);
    }

    int on(int duty, boolean is) {
        tally("on", duty, is);
        return change(y -> y.on(duty, is));
    }

    int drop() {
        tally("drop");
        return change(CellDays::drop);
    }

    int drain(int duty, int t) {
        tally("drain", duty, t);
        return change(y -> y.drain(duty, t));
    }

    int life(int t) {
        tally("life", t);
        return cell.life(t);
    }

    int charge(int day, int t) {
        tally("charge", day, t);
        return cell.charge(day, t);
    }

    int price(int duty) {
        tally("price", duty);
        return cell.price(duty);
    }

    int plan(int n, int what) {
        tally("plan", n, what);
        return cell.plan(n, what);
    }

    int sign(int day, int level) {
        tally("sign", day, level);
        return change(y -> y.sign(day, level));
    }

    int forget() {
        tally("forget");
        return change(CellDays::forget);
    }

    int level(int number, int day) {
        tally("level", number, day);
        return cell.level(number, day);
    }

    int agrees(int number) {
        tally("agrees", number);
        return cell.agrees(number);
    }

    int field(int what) {
        tally("field", what);
        return cell.field(what);
    }

    int count(int what) {
        tally("count", what);
        return cell.count(what);
    }

    long trace() {
        tally("trace");
        return cell.trace();
    }

    /** All that can be seen of it by some 170 calls; takes it apart, so it is asked of a copy. */
    String seen() {
        StringBuilder text = new StringBuilder();
        for (int i = 0; i < 6; i++) text.append(count(i)).append(' ');
        for (int d = 0; d < 24; d++) text.append(share(d)).append(' ');
        text.append("trace ").append(trace());
        seenOfLives(text.append(" lives "));
        seenOfSigns(text.append("signs "));
        seenOfDuties(text.append("duties "));
        season(3, 21);
        text.append("shares ");
        for (int d = 0; d < 3; d++) text.append(share(d)).append(' ');
        return text.toString();
    }

    private void seenOfLives(StringBuilder text) {
        for (int t = 1; t <= 5; t++) text.append(life(t)).append(' ').append(charge(3, t)).append(' ');
        for (int i = 0; i < 8; i++) text.append(price(i)).append(' ');
        for (int i = 0; i < 3; i++) text.append(plan(20, i)).append(' ');
        text.append(level(149, 2)).append(' ').append(level(0, 9)).append(' ');
    }

    private void seenOfSigns(StringBuilder text) {
        for (int i = 0; i < 4; i++) text.append(field(i)).append(' ');
        for (int i = 0; i < 13 && forget() >= 0; i++) {
            text.append(field(0)).append(' ').append(field(1)).append(' ');
        }
    }

    private void seenOfDuties(StringBuilder text) {
        for (int i = 0; i < 8; i++) {
            for (int t = 1; t <= 5; t++) text.append(drain(i, t)).append(' ');
            text.append(plan(1, 1)).append(' ');
        }
        for (int i = 0; i < 9 && drop() >= 0; i++) {
            text.append(count(1)).append(' ').append(plan(1, 1)).append(' ').append(life(5)).append(' ');
        }
    }
}
