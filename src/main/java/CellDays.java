/** How long a cell lasts under the duties of a device, and what signs from the field tell of it. */
public final class CellDays {
    public static final int BAD = -1, STATE = -2, FULL = -3, NONE = -9;

    private static final int DAYS = 400;
    private static final int MOST_TRIES = 5;
    private static final int STEADY = 0, BURST = 1, TRY = 2;

    private final Cell cell;
    private final Duties duties;
    private final Signs signs;
    private final Cases cases;
    private long asked;

    public CellDays() {
        cell = new Cell();
        duties = new Duties();
        signs = new Signs();
        cases = new Cases(cell, duties, signs);
        asked = 0L;
    }

    // ---- the cell

    public int set(int what, int v) {
        switch (what) {
            case 0:
                return within(v, 1, 5000) ? cell.changeRoom(v) : BAD;
            case 1:
                return within(v, 0, 20) ? cell.changeLeak(v) : BAD;
            case 2:
                return within(v, 1, 500) ? cell.changeBar(v) : BAD;
            default:
                return BAD;
        }
    }

    public int shares(int a, int b, int c) {
        if (!within(a, 10, 100) || !within(b, 10, a) || !within(c, 10, b)) {
            return BAD;
        }
        cell.changeShares(a, b, c);
        return 1;
    }

    public int season(int n, int digits) {
        if (!within(n, 1, Cell.MOST_PLACES) || !within(digits, 0, powerOfThree(n) - 1)) {
            return BAD;
        }
        cell.changeSeason(n, digits);
        return n;
    }

    public int share(int day) {
        return isDay(day) ? cell.shareOn(day) : BAD;
    }

    // ---- duties

    public int duty(int kind, int load, int times, int peak, int tries, int worth) {
        boolean common = within(kind, STEADY, TRY) && within(load, 1, 100)
            && within(times, 1, 20) && within(worth, 0, 100);
        boolean peakIsGood = kind == STEADY || within(peak, 0, 100);
        boolean triesAreGood = kind != TRY || isTries(tries);
        if (!common || !peakIsGood || !triesAreGood) {
            return BAD;
        }
        if (duties.isFull()) {
            return FULL;
        }
        return duties.add(new Duty(kind, load, times, peak, tries, worth));
    }

    public int on(int duty, boolean is) {
        Duty switched = duties.numbered(duty);
        if (switched == null) {
            return BAD;
        }
        int was = switched.isOn ? 1 : 0;
        switched.isOn = is;
        return was;
    }

    public int drop() {
        return duties.size == 0 ? STATE : duties.removeLatest();
    }

    public int drain(int duty, int t) {
        Duty told = duties.numbered(duty);
        if (told == null || !isTries(t) || t > told.tries) {
            return BAD;
        }
        asked += told.traceOfOneAsk();
        return told.drainBy(t, cell.bar);
    }

    // ---- lives, plans

    public int life(int t) {
        return isTries(t) ? cell.daysLasted(duties.loadOf(duties.setOfOn(), t, cell.bar)) : BAD;
    }

    public int charge(int day, int t) {
        if (!isDay(day) || !isTries(t)) {
            return BAD;
        }
        int load = duties.loadOf(duties.setOfOn(), t, cell.bar);
        return Math.max(0, cell.chargeAhead(day + 1, cell.leak, load));
    }

    public int price(int duty) {
        if (duties.numbered(duty) == null) {
            return BAD;
        }
        int bit = 1 << duty;
        int lit = duties.setOfOn();
        return sureBy(lit & ~bit) - sureBy(lit | bit);
    }

    public int plan(int n, int what) {
        if (!within(n, 1, DAYS) || !within(what, 0, 2)) {
            return BAD;
        }
        int set = worthiestSet(n);
        if (set == NONE) {
            return NONE;
        }
        switch (what) {
            case 0:
                return set;
            case 1:
                return duties.worthOf(set);
            default:
                return sureBy(set);
        }
    }

    // ---- signs

    public int sign(int day, int level) {
        if (!isDay(day) || !within(level, 0, Cell.TOP_LEVEL)) {
            return BAD;
        }
        return signs.isFull() ? FULL : signs.add(day, level);
    }

    public int forget() {
        return signs.size == 0 ? STATE : signs.removeLatest();
    }

    public int level(int number, int day) {
        return Cases.isNumber(number) && isDay(day) ? cases.levelAhead(number, day) : BAD;
    }

    public int agrees(int number) {
        if (!Cases.isNumber(number)) {
            return BAD;
        }
        return cases.fitsSigns(number) ? 1 : 0;
    }

    public int field(int what) {
        if (!within(what, 0, 3)) {
            return BAD;
        }
        cases.gatherAgreeing();
        switch (what) {
            case 0:
                return cases.agreed;
            case 1:
                return cases.leastAgreeing();
            case 2:
                return cases.isOdd() ? 1 : 0;
            default:
                return cases.dayThatTellsMost();
        }
    }

    public int count(int what) {
        switch (what) {
            case 0:
                return duties.size;
            case 1:
                return Integer.bitCount(duties.setOfOn());
            case 2:
                return signs.size;
            case 3:
                return cell.room;
            case 4:
                return cell.leak;
            case 5:
                return cell.bar;
            default:
                return BAD;
        }
    }

    public long trace() {
        return asked;
    }

    private int sureBy(int set) {
        return cell.daysLasted(duties.loadOf(set, MOST_TRIES, cell.bar));
    }

    /** Sets are tried from the least number up, so of equal worth the first one stays. */
    private int worthiestSet(int n) {
        int best = NONE;
        int most = -1;
        int sets = 1 << duties.size;
        for (int set = 0; set < sets; set++) {
            int worth = duties.worthOf(set);
            if (worth > most && sureBy(set) >= n) {
                best = set;
                most = worth;
            }
        }
        return best;
    }

    private static boolean within(int v, int least, int most) {
        return v >= least && v <= most;
    }

    private static boolean isDay(int day) {
        return within(day, 0, DAYS - 1);
    }

    private static boolean isTries(int t) {
        return within(t, 1, MOST_TRIES);
    }

    private static int powerOfThree(int n) {
        int power = 1;
        for (int i = 0; i < n && i < Cell.MOST_PLACES; i++) {
            power *= 3;
        }
        return power;
    }

    /** Every row of numbers is read here, so that no index is used untested. */
    private static int at(int[] row, int i) {
        return i >= 0 && i < row.length ? row[i] : 0;
    }

    /** Every row of numbers is written here, so that no index is used untested. */
    private static void put(int[] row, int i, int v) {
        if (i >= 0 && i < row.length) {
            row[i] = v;
        }
    }

    /** The cell, its season, and what a day takes of its charge. */
    private static final class Cell {
        static final int MOST_PLACES = 12;
        static final int TOP_LEVEL = 9;

        private final int[] sharesByWarmth = {100, 90, 70};
        private final int[] warmths = new int[MOST_PLACES];
        private int places = 1;
        private int room = 1000;
        private int leak = 1;
        private int bar = 50;

        int changeRoom(int v) {
            int was = room;
            room = v;
            return was;
        }

        int changeLeak(int v) {
            int was = leak;
            leak = v;
            return was;
        }

        int changeBar(int v) {
            int was = bar;
            bar = v;
            return was;
        }

        void changeShares(int warm, int cool, int cold) {
            put(sharesByWarmth, 0, warm);
            put(sharesByWarmth, 1, cool);
            put(sharesByWarmth, 2, cold);
        }

        void changeSeason(int n, int digits) {
            int rest = digits;
            for (int i = 0; i < n && i < MOST_PLACES; i++) {
                put(warmths, i, rest % 3);
                rest /= 3;
            }
            places = n;
        }

        int shareOn(int day) {
            int place = places > 0 ? day % places : 0;
            return at(sharesByWarmth, at(warmths, place));
        }

        int chargeAtFirst() {
            return room * 1000;
        }

        /** Below 0: it does not last the day; once below, it stays so. */
        int chargeBehind(int charge, int share, int leaking, int load) {
            if (charge < 0 || share <= 0) {
                return -1;
            }
            int leaked = (charge * leaking + 999) / 1000;
            int used = (load * 100 + share - 1) / share;
            return charge - leaked - used;
        }

        /** From the charge ahead of one day to that ahead of another; below 0: it does not last till then. */
        int chargeFrom(int charge, int from, int to, int leaking, int load) {
            int left = charge;
            for (int day = from; day < to && left >= 0; day++) {
                left = chargeBehind(left, shareOn(day), leaking, load);
            }
            return left;
        }

        int chargeAhead(int day, int leaking, int load) {
            return chargeFrom(chargeAtFirst(), 0, day, leaking, load);
        }

        int daysLasted(int load) {
            int left = chargeAtFirst();
            for (int day = 0; day < DAYS; day++) {
                left = chargeBehind(left, shareOn(day), leak, load);
                if (left < 0) {
                    return day;
                }
            }
            return DAYS;
        }

        int levelOf(int charge) {
            int first = chargeAtFirst();
            return charge < 0 || first <= 0 ? 0 : Math.min(TOP_LEVEL, 10 * charge / first);
        }
    }

    /** One duty of a device. */
    private static final class Duty {
        private final int kind;
        private final int load;
        private final int times;
        private final int peak;
        private final int tries;
        private final int worth;
        private boolean isOn;

        /** What is not looked at of a kind is set so that it refuses and changes nothing. */
        Duty(int kind, int load, int times, int peak, int tries, int worth) {
            this.kind = kind;
            this.load = load;
            this.times = times;
            this.peak = kind == STEADY ? 0 : peak;
            this.tries = kind == TRY ? tries : MOST_TRIES;
            this.worth = worth;
            this.isOn = true;
        }

        /** Each kind goes on from what the kind that stands over it does. */
        int drainBy(int t, int bar) {
            int drained = load * times;
            if (kind != STEADY) {
                drained += peak + Math.max(0, peak - bar);
            }
            return kind == TRY ? drained * Math.min(t, tries) : drained;
        }

        /** A kind's body asks the one over it once, so the bodies' numbers add up. */
        int traceOfOneAsk() {
            switch (kind) {
                case STEADY:
                    return 1;
                case BURST:
                    return 10 + 1;
                default:
                    return 100 + 10 + 1;
            }
        }
    }

    /** The duties by number; a set of them is a number whose bits are theirs. */
    private static final class Duties {
        private final Duty[] row = new Duty[8];
        private int size = 0;

        boolean isFull() {
            return size >= row.length;
        }

        Duty numbered(int number) {
            return number >= 0 && number < size && number < row.length ? row[number] : null;
        }

        private Duty numberedIn(int set, int number) {
            return (set >> number & 1) == 1 ? numbered(number) : null;
        }

        int add(Duty added) {
            int number = size;
            if (number >= 0 && number < row.length) {
                row[number] = added;
                size = number + 1;
            }
            return number;
        }

        int removeLatest() {
            int last = size - 1;
            if (last >= 0 && last < row.length) {
                row[last] = null;
                size = last;
            }
            return size;
        }

        int setOfOn() {
            int set = 0;
            for (int i = 0; i < size; i++) {
                Duty one = numbered(i);
                if (one != null && one.isOn) {
                    set |= 1 << i;
                }
            }
            return set;
        }

        int loadOf(int set, int t, int bar) {
            int sum = 0;
            for (int i = 0; i < size; i++) {
                Duty one = numberedIn(set, i);
                if (one != null) {
                    sum += one.drainBy(t, bar);
                }
            }
            return sum;
        }

        int worthOf(int set) {
            int sum = 0;
            for (int i = 0; i < size; i++) {
                Duty one = numberedIn(set, i);
                if (one != null) {
                    sum += one.worth;
                }
            }
            return sum;
        }
    }

    /** The signs as they came, and their order by day, so that one walk through the days meets them all. */
    private static final class Signs {
        private static final int MOST = 12;

        private final int[] days = new int[MOST];
        private final int[] levels = new int[MOST];
        private final int[] order = new int[MOST];
        private int size = 0;

        boolean isFull() {
            return size >= MOST;
        }

        int add(int day, int levelRead) {
            put(days, size, day);
            put(levels, size, levelRead);
            size++;
            arrange();
            return size;
        }

        int removeLatest() {
            size--;
            arrange();
            return size;
        }

        private void arrange() {
            for (int i = 0; i < size; i++) {
                int place = i;
                while (place > 0 && dayInOrder(place - 1) > at(days, i)) {
                    put(order, place, at(order, place - 1));
                    place--;
                }
                put(order, place, i);
            }
        }

        int dayInOrder(int i) {
            return at(days, at(order, i));
        }

        int levelInOrder(int i) {
            return at(levels, at(order, i));
        }
    }

    /** The cases that could stand behind the signs; its rows are made once and used by every call. */
    private static final class Cases {
        private static final int ALL = 150;
        private static final int ODD_DRAINS = 5;
        private static final int PER_AGE = MOST_TRIES * ODD_DRAINS;

        private final Cell cell;
        private final Duties duties;
        private final Signs signs;
        private final int[] agreeing = new int[ALL];
        private final int[] loads = new int[ALL];
        private final int[] charges = new int[ALL];
        private final int[] atLevel = new int[Cell.TOP_LEVEL + 1];
        private int agreed = 0;

        Cases(Cell cell, Duties duties, Signs signs) {
            this.cell = cell;
            this.duties = duties;
            this.signs = signs;
        }

        static boolean isNumber(int number) {
            return within(number, 0, ALL - 1);
        }

        private static int oddOf(int number) {
            return number % ODD_DRAINS;
        }

        private int leakOf(int number) {
            return cell.leak + number / PER_AGE;
        }

        private int loadOfCase(int number) {
            int t = number / ODD_DRAINS % MOST_TRIES + 1;
            return duties.loadOf(duties.setOfOn(), t, cell.bar) + 20 * oddOf(number);
        }

        int levelAhead(int number, int day) {
            return cell.levelOf(cell.chargeAhead(day, leakOf(number), loadOfCase(number)));
        }

        boolean fitsSigns(int number) {
            int leaking = leakOf(number);
            int load = loadOfCase(number);
            int left = cell.chargeAtFirst();
            int day = 0;
            for (int i = 0; i < signs.size; i++) {
                int next = signs.dayInOrder(i);
                left = cell.chargeFrom(left, day, next, leaking, load);
                day = next;
                if (cell.levelOf(left) != signs.levelInOrder(i)) {
                    return false;
                }
            }
            return true;
        }

        void gatherAgreeing() {
            agreed = 0;
            for (int number = 0; number < ALL; number++) {
                if (fitsSigns(number)) {
                    put(agreeing, agreed, number);
                    agreed++;
                }
            }
        }

        int leastAgreeing() {
            return agreed > 0 ? at(agreeing, 0) : NONE;
        }

        boolean isOdd() {
            for (int k = 0; k < agreed; k++) {
                if (oddOf(at(agreeing, k)) == 0) {
                    return false;
                }
            }
            return agreed > 0;
        }

        /**
         * All agreeing cases go through the days side by side, so one row of charges serves every day.
         * A level never rises again: once all stand at 0, no later day tells anything.
         */
        int dayThatTellsMost() {
            if (agreed < 2) {
                return NONE;
            }
            startAgreeing();
            int best = 0;
            int least = ALL + 1;
            for (int day = 0; day < DAYS; day++) {
                int greatest = greatestAtOneLevel();
                if (greatest < least) {
                    least = greatest;
                    best = day;
                }
                if (at(atLevel, 0) == agreed) {
                    break;
                }
                passDay(day);
            }
            return best;
        }

        private void startAgreeing() {
            for (int k = 0; k < agreed; k++) {
                put(loads, k, loadOfCase(at(agreeing, k)));
                put(charges, k, cell.chargeAtFirst());
            }
        }

        private int greatestAtOneLevel() {
            for (int i = 0; i < atLevel.length; i++) {
                atLevel[i] = 0;
            }
            int greatest = 0;
            for (int k = 0; k < agreed; k++) {
                int read = cell.levelOf(at(charges, k));
                int now = at(atLevel, read) + 1;
                put(atLevel, read, now);
                greatest = Math.max(greatest, now);
            }
            return greatest;
        }

        private void passDay(int day) {
            int share = cell.shareOn(day);
            for (int k = 0; k < agreed; k++) {
                int leaking = leakOf(at(agreeing, k));
                put(charges, k, cell.chargeBehind(at(charges, k), share, leaking, at(loads, k)));
            }
        }
    }
}
