/** Watches several series of counts for changes by cumulative sums. */
public final class CountWatch {
    public static final int UNKNOWN = -1, OUTSIDE = -2, STATE = -3, FULL = -4, NONE = -9;

    private static final int MOST_SERIES = 5;
    private static final int MOST_COUNT = 99;
    private static final int MOST_BOUND = 99;
    private static final int MOST_AHEAD = 60;
    private static final int MOST_LEAST = 30;
    private static final int MOST_DOINGS = 4;
    private static final int MOST_OBSERVATIONS = 6;
    private static final int MOST_UNKNOWN = 31;
    private static final int MOST_DAYS = 6;
    private static final int MOST_QUORUM = 99;
    private static final int MOST_DRAWN = 20;
    private static final int SLOTS = 2;
    private static final int FIRST_CHANCES = 2620;
    private static final int TENTHS = 10;

    private final Text text = new Text();
    private final Charts now = new Charts();
    private final Acts acts = new Acts();
    private final Charts[] slots = new Charts[SLOTS];
    private final boolean[] kept = new boolean[SLOTS];
    private final Observation[] observations = new Observation[MOST_OBSERVATIONS];
    private int observationCount = 0;
    private long seedNow = 0;

    // Predictions run on these two, so that no call makes an object.
    private final Chart trial = new Chart();
    private final Charts trials = new Charts();
    private final RunLength runLength = new RunLength();

    public CountWatch() {
        for (int i = 0; i < SLOTS; i++) {
            slots[i] = new Charts();
        }
        for (int i = 0; i < MOST_OBSERVATIONS; i++) {
            observations[i] = new Observation();
        }
    }

    // ---- the watch

    public int write(int letter) {
        if (!within(letter, 0, 255)) {
            return OUTSIDE;
        }
        return text.append(letter) ? text.size : FULL;
    }

    public int wipe() {
        int before = text.size;
        text.size = 0;
        return before;
    }

    public int fault() {
        return text.findFault();
    }

    public int watch() {
        if (text.findFault() != NONE) {
            return STATE;
        }
        text.readInto(now);
        acts.forget();
        for (int i = 0; i < SLOTS; i++) {
            kept[i] = false;
        }
        return now.size;
    }

    public int series(int series, int what) {
        Chart chart = now.at(series);
        if (chart == null) {
            return UNKNOWN;
        }
        return within(what, 0, Chart.LAST_PROPERTY) ? chart.property(what) : OUTSIDE;
    }

    public int past(int series, int place) {
        Chart chart = now.at(series);
        if (chart == null || !chart.remembers(place)) {
            return UNKNOWN;
        }
        return chart.thingAt(place);
    }

    // ---- acts

    public int tell(int series, int v) {
        Chart chart = now.at(series);
        if (chart == null) {
            return UNKNOWN;
        }
        if (!within(v, 0, MOST_COUNT)) {
            return OUTSIDE;
        }
        acts.remember(now);
        return chart.addCount(v);
    }

    public int gap(int series) {
        Chart chart = now.at(series);
        if (chart == null) {
            return UNKNOWN;
        }
        acts.remember(now);
        chart.addGap();
        return chart.day;
    }

    public int clear(int series) {
        Chart chart = now.at(series);
        if (chart == null) {
            return UNKNOWN;
        }
        int before = chart.up + chart.down;
        acts.remember(now);
        chart.dropSums();
        return before;
    }

    public int set(int series, int what, int v) {
        Chart chart = now.at(series);
        if (chart == null) {
            return UNKNOWN;
        }
        if (!Chart.allows(what, v)) {
            return OUTSIDE;
        }
        int before = chart.parameter(what);
        acts.remember(now);
        chart.change(what, v);
        return before;
    }

    public int chances(int w) {
        if (!within(w, 0, 99999) || digitSum(w) != TENTHS) {
            return OUTSIDE;
        }
        int before = now.chances;
        acts.remember(now);
        now.chances = w;
        return before;
    }

    public int undo() {
        if (acts.size == 0) {
            return STATE;
        }
        acts.takeBack(now);
        return acts.size;
    }

    // ---- predictions

    public int ahead(int n, int v, int series, int what) {
        Chart chart = now.at(series);
        if (chart == null) {
            return UNKNOWN;
        }
        if (!within(n, 0, MOST_AHEAD) || !within(v, 0, MOST_COUNT)
                || !within(what, Chart.FIRST_STATE, Chart.LAST_PROPERTY)) {
            return OUTSIDE;
        }
        trial.copyFrom(chart);
        trial.addCounts(v, n);
        return trial.property(what);
    }

    public int rings(int series, int v) {
        Chart chart = now.at(series);
        if (chart == null) {
            return UNKNOWN;
        }
        return within(v, 0, MOST_COUNT) ? firstAlarm(chart, v, MOST_AHEAD) : OUTSIDE;
    }

    public int least(int series, int n) {
        Chart chart = now.at(series);
        if (chart == null) {
            return UNKNOWN;
        }
        if (!within(n, 1, MOST_LEAST)) {
            return OUTSIDE;
        }
        for (int v = 0; v <= MOST_COUNT; v++) {
            if (firstAlarm(chart, v, n) != NONE) {
                return v;
            }
        }
        return NONE;
    }

    private int firstAlarm(Chart chart, int v, int most) {
        trial.copyFrom(chart);
        for (int n = 1; n <= most; n++) {
            if (trial.addCount(v) != 0) {
                return n;
            }
        }
        return NONE;
    }

    public long length(int series, boolean upper) {
        Chart chart = now.at(series);
        if (chart == null) {
            return UNKNOWN;
        }
        if (chart.bound > RunLength.MOST_STATES) {
            return STATE;
        }
        if (!runLength.solve(chart.slack, chart.bound, now.chances)) {
            return NONE;
        }
        return sideInLowestTerms(runLength.above, runLength.below, upper);
    }

    public int would(int series, int k, int h) {
        Chart chart = now.at(series);
        if (chart == null) {
            return UNKNOWN;
        }
        if (!within(k, 0, 9) || !within(h, 1, MOST_BOUND)) {
            return OUTSIDE;
        }
        return chart.replay(k, h);
    }

    public int ranked(int place) {
        for (int i = 0; i < now.size; i++) {
            if (now.rankOf(i) == place) {
                return i;
            }
        }
        return UNKNOWN;
    }

    public int judge(int n, long row) {
        if (!within(n, 1, MOST_DOINGS) || row < 0 || withoutLastDoings(row, n) != 0) {
            return OUTSIDE;
        }
        trials.copyFrom(now);
        for (int i = 0; i < n; i++) {
            int doing = (int) (withoutLastDoings(row, n - 1 - i) % 10000);
            if (!stands(doing)) {
                return i;
            }
        }
        return NONE;
    }

    private static long withoutLastDoings(long row, int doings) {
        long rest = row;
        for (int i = 0; i < doings; i++) {
            rest /= 10000;
        }
        return rest;
    }

    /** Statements too are asked of the trial copy: they are about what the doings before them left. */
    private boolean stands(int doing) {
        int value = doing % 100;
        Chart chart = trials.at(doing / 100 % 10);
        if (chart == null) {
            return false;
        }
        switch (doing / 1000) {
            case 1:
                chart.addCount(value);
                return true;
            case 2:
                chart.addGap();
                return value == 0;
            case 3:
                chart.dropSums();
                return value == 0;
            case 4:
                return chart.up == value;
            case 5:
                return chart.down == value;
            case 6:
                return chart.kind == value;
            case 7:
                return chart.expectation() == value;
            default:
                return false;
        }
    }

    // ---- observations

    public int see(int series, int n, int k, int was) {
        if (now.at(series) == null) {
            return UNKNOWN;
        }
        if (!within(n, 0, 9) || !within(k, 0, 9) || !within(was, 0, 1)) {
            return OUTSIDE;
        }
        if (observationCount >= MOST_OBSERVATIONS) {
            return FULL;
        }
        Observation observation = observations[observationCount];
        observation.series = series;
        observation.n = n;
        observation.k = k;
        observation.was = was == 1;
        observationCount++;
        return observationCount;
    }

    public int unsee() {
        int before = observationCount;
        observationCount = 0;
        return before;
    }

    public int which() {
        int agreeing = 0;
        for (int v = 0; v <= MOST_UNKNOWN; v++) {
            if (agreesWithAll(v)) {
                agreeing |= 1 << v;
            }
        }
        return agreeing;
    }

    private boolean agreesWithAll(int v) {
        for (int i = 0; i < observationCount; i++) {
            Observation observation = observations[i];
            Chart chart = now.at(observation.series);
            if (chart != null && !agrees(observation, chart, v)) {
                return false;
            }
        }
        return true;
    }

    private boolean agrees(Observation observation, Chart chart, int v) {
        trial.copyFrom(chart);
        trial.addCounts(v, observation.n);
        return (trial.alarms - chart.alarms == observation.k) == observation.was;
    }

    // ---- probabilities and simulations

    public int share(int series, int q, boolean upper) {
        Chart chart = now.at(series);
        if (chart == null) {
            return UNKNOWN;
        }
        if (!within(q, 1, MOST_QUORUM)) {
            return OUTSIDE;
        }
        int others = now.size - 1;
        long decisive = 0;
        for (int before = 0; before < 1 << now.size; before++) {
            int sum = now.sumOfUps(before);
            if ((before >> series & 1) == 0 && sum < q && sum + chart.up >= q) {
                int count = Integer.bitCount(before);
                decisive += factorial(count) * factorial(others - count);
            }
        }
        return (int) sideInLowestTerms(decisive, factorial(now.size), upper);
    }

    public int lost(int series, int v, int n, int x, boolean upper) {
        Chart chart = now.at(series);
        if (chart == null) {
            return UNKNOWN;
        }
        if (!within(v, 0, MOST_COUNT) || !within(n, 1, MOST_DAYS) || !within(x, 0, TENTHS)) {
            return OUTSIDE;
        }
        long above = 0;
        for (int gaps = 0; gaps < 1 << n; gaps++) {
            if (alarmsWithGaps(chart, v, n, gaps)) {
                above += weight(n, gaps, x);
            }
        }
        return (int) sideInLowestTerms(above, weight(n, 0, 0), upper);
    }

    private boolean alarmsWithGaps(Chart chart, int v, int n, int gaps) {
        trial.copyFrom(chart);
        for (int day = 0; day < n; day++) {
            if ((gaps >> day & 1) == 1) {
                trial.addGap();
            } else if (trial.addCount(v) != 0) {
                return true;
            }
        }
        return false;
    }

    /** The probability is told times 10 to the power of n, as that is a whole number. */
    private static long weight(int n, int gaps, int x) {
        long product = 1;
        for (int day = 0; day < n; day++) {
            product *= (gaps >> day & 1) == 1 ? x : TENTHS - x;
        }
        return product;
    }

    public long seed(long v) {
        long before = seedNow;
        seedNow = v;
        return before;
    }

    public int drawn(int m) {
        if (!within(m, 1, MOST_DRAWN)) {
            return OUTSIDE;
        }
        trials.copyFrom(now);
        int alarms = 0;
        for (int i = 0; i < m; i++) {
            seedNow = seedNow * 6364136223846793005L + 1442695040888963407L;
            int w = (int) (seedNow >>> 33);
            Chart chart = trials.size > 0 ? trials.at(w / 64 % trials.size) : null;
            if (chart != null && chart.addCount(w % 40) != 0) {
                alarms++;
            }
        }
        return alarms;
    }

    // ---- slots and counts

    public int keep(int slot) {
        if (!within(slot, 0, SLOTS - 1)) {
            return UNKNOWN;
        }
        slots[slot].copyFrom(now);
        kept[slot] = true;
        return now.alarmSum();
    }

    public int again(int slot) {
        if (!within(slot, 0, SLOTS - 1)) {
            return UNKNOWN;
        }
        if (!kept[slot]) {
            return STATE;
        }
        now.copyFrom(slots[slot]);
        acts.forget();
        return now.alarmSum();
    }

    public int count(int what) {
        switch (what) {
            case 0:
                return text.size;
            case 1:
                return now.size;
            case 2:
                return now.alarmSum();
            case 3:
                return now.chances;
            case 4:
                return acts.size;
            case 5:
                return observationCount;
            default:
                return OUTSIDE;
        }
    }

    // ---- numbers

    private static boolean within(int v, int lowest, int highest) {
        return v >= lowest && v <= highest;
    }

    private static int digitSum(int w) {
        int sum = 0;
        for (int i = 0; i < RunLength.STEPS; i++) {
            sum += RunLength.chance(w, i);
        }
        return sum;
    }

    private static long factorial(int n) {
        long product = 1;
        for (int i = 2; i <= n; i++) {
            product *= i;
        }
        return product;
    }

    private static long sideInLowestTerms(long above, long below, boolean upper) {
        long divisor = commonDivisor(above, below);
        long side = upper ? above : below;
        return divisor > 0 ? side / divisor : side;
    }

    private static long commonDivisor(long a, long b) {
        long greater = a;
        long smaller = b;
        // Euclid needs less than 100 steps for any two longs.
        for (int step = 0; step < 100 && smaller != 0; step++) {
            long rest = greater % smaller;
            greater = smaller;
            smaller = rest;
        }
        return greater;
    }

    private static final class Text {
        static final int MOST = 80;
        static final int SHORTEST_SERIES = 10;
        static final int SEASON_PLACE = 8;

        final int[] letters = new int[MOST];
        int size = 0;

        boolean append(int letter) {
            if (size >= MOST) {
                return false;
            }
            letters[size] = letter;
            size++;
            return true;
        }

        int findFault() {
            if (size == 0 || letters[0] != 'W') {
                return 0;
            }
            int place = 0;
            int complete = 0;
            for (int i = 1; i < size; i++) {
                if (complete == MOST_SERIES || !fits(place, letters[i], letters[i - 1])) {
                    return i;
                }
                if (letters[i] == '.') {
                    place = 0;
                    complete++;
                } else {
                    place++;
                }
            }
            return place == 0 ? NONE : size;
        }

        /** Places are counted from the c of the series, so that one row of cases serves for all series. */
        static boolean fits(int place, int letter, int before) {
            switch (place) {
                case 0:
                    return letter == 'c';
                case 5:
                    // The bound is not 00.
                    return within(letter, before == '0' ? '1' : '0', '9');
                case 6:
                    return within(letter, '0', '4');
                case 7:
                    return within(letter, '0', '1');
                case 9:
                case 10:
                case 11:
                case 12:
                    return letter == '.' || within(letter, '0', '9');
                case 13:
                    return letter == '.';
                default:
                    return within(letter, '0', '9');
            }
        }

        void readInto(Charts charts) {
            int at = 1;
            int series = 0;
            while (series < MOST_SERIES && at + SHORTEST_SERIES <= size) {
                at = readSeries(at, charts.rows[series]);
                series++;
            }
            charts.size = series;
        }

        /** Returns the place behind the full stop, as only the reading tells how long a series is. */
        int readSeries(int at, Chart chart) {
            chart.base = 10 * digit(at + 1) + digit(at + 2);
            chart.slack = digit(at + 3);
            chart.bound = 10 * digit(at + 4) + digit(at + 5);
            chart.rate = digit(at + 6);
            chart.restart = digit(at + 7);
            int start = at + SEASON_PLACE;
            int length = 0;
            while (length < Chart.MOST_SEASON && !stopsAt(start + length)) {
                chart.season[length] = digit(start + length);
                length++;
            }
            chart.seasonLength = length;
            chart.begin();
            return start + length + 1;
        }

        int digit(int at) {
            return within(at, 0, size - 1) ? letters[at] - '0' : 0;
        }

        boolean stopsAt(int at) {
            return !within(at, 0, size - 1) || letters[at] == '.';
        }
    }

    /** A series; its name is another, as series() is a method of the face. */
    private static final class Chart {
        static final int MOST_SEASON = 5;
        static final int MOST_THINGS = 12;
        static final int MOST_LEVEL = 1584;
        static final int FIRST_STATE = 5;
        static final int LAST_PROPERTY = 13;

        int base;
        int slack;
        int bound;
        int rate;
        int restart;
        final int[] season = new int[MOST_SEASON];
        int seasonLength;
        int day;
        int up;
        int down;
        int alarms;
        int kind;
        int alarmDay;
        int level;
        // The past; a gap stands in it as NONE, which no count can be.
        final int[] things = new int[MOST_THINGS];
        int thingCount;

        void begin() {
            day = 0;
            up = 0;
            down = 0;
            alarms = 0;
            kind = 0;
            alarmDay = NONE;
            level = 16 * base;
            thingCount = 0;
        }

        void copyFrom(Chart other) {
            base = other.base;
            slack = other.slack;
            bound = other.bound;
            rate = other.rate;
            restart = other.restart;
            System.arraycopy(other.season, 0, season, 0, MOST_SEASON);
            seasonLength = other.seasonLength;
            day = other.day;
            up = other.up;
            down = other.down;
            alarms = other.alarms;
            kind = other.kind;
            alarmDay = other.alarmDay;
            level = other.level;
            System.arraycopy(other.things, 0, things, 0, MOST_THINGS);
            thingCount = other.thingCount;
        }

        int seasonDigit(int ofDay) {
            int place = seasonLength > 0 ? ofDay % seasonLength : 0;
            return place >= 0 && place < MOST_SEASON ? season[place] : 0;
        }

        int expectationOn(int ofDay) {
            return (level >> 4) + seasonDigit(ofDay) - 5;
        }

        int expectation() {
            return expectationOn(day);
        }

        /** Returns the kind of the alarm, as the predictions need to know of it at once. */
        int addCount(int v) {
            int e = expectationOn(day);
            up = Math.max(0, up + v - e - slack);
            down = Math.max(0, down + e - v - slack);
            int alarm = (up >= bound ? 1 : 0) + (down >= bound ? 2 : 0);
            if (alarm != 0) {
                ring(alarm);
            } else if (rate > 0 && up == 0 && down == 0) {
                adapt(v);
            }
            append(v);
            return alarm;
        }

        void ring(int alarm) {
            alarms++;
            kind = alarm;
            alarmDay = day;
            int start = restart == 1 ? bound / 2 : 0;
            up = (alarm & 1) != 0 ? start : 0;
            down = (alarm & 2) != 0 ? start : 0;
        }

        void adapt(int v) {
            int target = 16 * (v - seasonDigit(day) + 5);
            int moved = level + (target - level >> rate);
            level = Math.max(0, Math.min(MOST_LEVEL, moved));
        }

        void addCounts(int v, int n) {
            for (int i = 0; i < n; i++) {
                addCount(v);
            }
        }

        void addGap() {
            append(NONE);
        }

        void append(int thing) {
            if (thingCount >= MOST_THINGS) {
                System.arraycopy(things, 1, things, 0, MOST_THINGS - 1);
                thingCount = MOST_THINGS - 1;
            }
            things[thingCount] = thing;
            thingCount++;
            day++;
        }

        boolean remembers(int place) {
            return within(place, 0, thingCount - 1);
        }

        int thingAt(int place) {
            return remembers(place) ? things[place] : NONE;
        }

        void dropSums() {
            up = 0;
            down = 0;
        }

        /** All days have the present level, as the past keeps none of its own. */
        int replay(int k, int h) {
            int above = 0;
            int below = 0;
            for (int place = 0; place < thingCount; place++) {
                int v = things[place];
                if (v != NONE) {
                    int e = expectationOn(day - thingCount + place);
                    above = Math.max(0, above + v - e - k);
                    below = Math.max(0, below + e - v - k);
                    if (above >= h || below >= h) {
                        return place;
                    }
                }
            }
            return NONE;
        }

        static boolean allows(int what, int v) {
            switch (what) {
                case 0:
                    return within(v, 0, 9);
                case 1:
                    return within(v, 1, MOST_BOUND);
                case 2:
                    return within(v, 0, 4);
                case 3:
                    return within(v, 0, 1);
                default:
                    return false;
            }
        }

        /** The numbers are those of set(), which differ from those of series(). */
        int parameter(int what) {
            switch (what) {
                case 0:
                    return slack;
                case 1:
                    return bound;
                case 2:
                    return rate;
                default:
                    return restart;
            }
        }

        void change(int what, int v) {
            switch (what) {
                case 0:
                    slack = v;
                    break;
                case 1:
                    bound = v;
                    break;
                case 2:
                    rate = v;
                    break;
                default:
                    restart = v;
                    break;
            }
        }

        /** The numbers are those of series() and ahead(). */
        int property(int what) {
            switch (what) {
                case 0:
                    return base;
                case 1:
                    return slack;
                case 2:
                    return bound;
                case 3:
                    return rate;
                case 4:
                    return restart;
                case 5:
                    return day;
                case 6:
                    return up;
                case 7:
                    return down;
                case 8:
                    return alarms;
                case 9:
                    return kind;
                case 10:
                    return alarmDay;
                case 11:
                    return level;
                case 12:
                    return expectation() + 100;
                default:
                    return thingCount;
            }
        }
    }

    /** All that an act, a slot or a trial needs a copy of: the series and the chances. */
    private static final class Charts {
        final Chart[] rows = new Chart[MOST_SERIES];
        int size = 0;
        int chances = FIRST_CHANCES;

        Charts() {
            for (int i = 0; i < MOST_SERIES; i++) {
                rows[i] = new Chart();
            }
        }

        void copyFrom(Charts other) {
            size = other.size;
            chances = other.chances;
            for (int i = 0; i < other.size; i++) {
                rows[i].copyFrom(other.rows[i]);
            }
        }

        /** Null where there is none, so that one look tells and fetches. */
        Chart at(int series) {
            return within(series, 0, size - 1) ? rows[series] : null;
        }

        int alarmSum() {
            int sum = 0;
            for (int i = 0; i < size; i++) {
                sum += rows[i].alarms;
            }
            return sum;
        }

        int sumOfUps(int setOfSeries) {
            int sum = 0;
            for (int i = 0; i < size; i++) {
                sum += (setOfSeries >> i & 1) == 1 ? rows[i].up : 0;
            }
            return sum;
        }

        /** Counts those before it: five series need no sorting. */
        int rankOf(int series) {
            int rank = 0;
            for (int i = 0; i < size; i++) {
                rank += precedes(i, series) ? 1 : 0;
            }
            return rank;
        }

        boolean precedes(int one, int other) {
            Chart a = at(one);
            Chart b = at(other);
            if (a == null || b == null) {
                return false;
            }
            // Multiplied by both bounds, the quotients compare exactly.
            int mine = Math.max(a.up, a.down) * b.bound;
            int theirs = Math.max(b.up, b.down) * a.bound;
            return mine > theirs || mine == theirs && one < other;
        }
    }

    /** A ring of copies from before each act: the oldest one gives way, and to undo is to copy back. */
    private static final class Acts {
        static final int MOST = 14;

        final Charts[] before = new Charts[MOST];
        int next = 0;
        int size = 0;

        Acts() {
            for (int i = 0; i < MOST; i++) {
                before[i] = new Charts();
            }
        }

        void remember(Charts charts) {
            before[next].copyFrom(charts);
            next = (next + 1) % MOST;
            size = Math.min(MOST, size + 1);
        }

        void takeBack(Charts charts) {
            next = (next + MOST - 1) % MOST;
            charts.copyFrom(before[next]);
            size--;
        }

        void forget() {
            size = 0;
        }
    }

    private static final class Observation {
        int series;
        int n;
        int k;
        boolean was;
    }

    private static final class RunLength {
        static final int MOST_STATES = 6;
        static final int STEPS = 5;
        static final int MIDDLE_STEP = 2;

        // An equation a row; the last column is the right side.
        final long[][] rows = new long[MOST_STATES][MOST_STATES + 1];
        long above = 0;
        long below = 1;

        /** False if up may stay below the bound for ever: the equations have no answer then. */
        boolean solve(int slack, int bound, int chances) {
            if (!within(bound, 1, MOST_STATES) || !climbs(slack, chances)) {
                return false;
            }
            for (int state = 0; state < bound; state++) {
                putEquation(state, slack, bound, chances);
            }
            return eliminate(bound);
        }

        /** A step upwards reaches the bound from every value; without one it is not reached even from 0. */
        static boolean climbs(int slack, int chances) {
            for (int step = 0; step < STEPS; step++) {
                if (step - MIDDLE_STEP > slack && chance(chances, step) > 0) {
                    return true;
                }
            }
            return false;
        }

        /** In tenths, as the equations are kept in whole numbers; the steps are counted from 0. */
        static int chance(int chances, int step) {
            int rest = chances;
            for (int i = step; i < STEPS - 1; i++) {
                rest /= 10;
            }
            return rest % 10;
        }

        /** The rows stand from the greatest value of up to 0, as the elimination ends with the value asked for. */
        void putEquation(int state, int slack, int bound, int chances) {
            long[] row = rows[bound - 1 - state];
            for (int column = 0; column < bound; column++) {
                row[column] = 0;
            }
            row[bound - 1 - state] = TENTHS;
            row[bound] = TENTHS;
            for (int step = 0; step < STEPS; step++) {
                int then = Math.max(0, state + step - MIDDLE_STEP - slack);
                if (then < bound) {
                    row[bound - 1 - then] -= chance(chances, step);
                }
            }
        }

        /** Eliminates in whole numbers (Bareiss): each division by the pivot before leaves no rest. */
        boolean eliminate(int bound) {
            long last = 1;
            for (int k = 0; k < bound - 1; k++) {
                long pivot = rows[k][k];
                for (int i = k + 1; i < bound; i++) {
                    for (int j = k + 1; j <= bound; j++) {
                        long crossed = rows[i][j] * pivot - rows[i][k] * rows[k][j];
                        rows[i][j] = last != 0 ? crossed / last : crossed;
                    }
                }
                last = pivot;
            }
            above = rows[bound - 1][bound];
            below = rows[bound - 1][bound - 1];
            return below > 0;
        }
    }
}
