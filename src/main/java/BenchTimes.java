import java.util.Arrays;

/**
 * Times of the bench: work paid by the piece at times set by a watch.
 *
 * <p>The methods of this class look at what they are given and tell findings; the classes inside it
 * keep the state and reckon, and rely on having been given only what was looked at. Every row is
 * made with the object, and no call makes another one.
 */
public final class BenchTimes {
    private static final int LOW = -1000000000;
    private static final int BEYOND = 1;
    private static final int NONE = 2;
    private static final int STATE = 3;
    private static final int FULL = 4;
    private static final int KIND = 5;

    /** What the classes inside answer where there is nothing; all that they reckon is 0 or more. */
    private static final int NOTHING = -1;

    private static final int LAST_WEEK = 500;
    private static final int RATERS = 4;
    private static final int WORKERS = 8;
    private static final int JOBS = 8;
    private static final int CAUSES = 4;
    private static final int LEAST_PACE = 50;
    private static final int MOST_PACE = 150;
    private static final int MOST_TIME = 999;
    private static final int MOST_OFTEN = 9;
    private static final int MOST_ALLOWED = 50;
    private static final int MOST_PIECES = 999999;
    private static final int MOST_MINUTES = 3000;
    private static final int MOST_NUMBERS = 8;

    private final int[] findings = new int[KIND + 1];
    private final Elements elements = new Elements();
    private final Watch watch = new Watch(elements);
    private final Jobs jobs = new Jobs();
    private final Rates rates = new Rates(jobs, watch);
    private final Rules rules = new Rules();
    private final WorkRows rows = new WorkRows(rates, rules);
    private final WaitRows waits = new WaitRows();
    private final Pays pays = new Pays(rows, waits, rules);
    private final Doubt doubt = new Doubt(rows);
    private final Slowness slowness = new Slowness(rows);
    private final int[] numbers = new int[MOST_NUMBERS];
    private int numberMany;
    private int now;

    public BenchTimes() {
    }

    // ---- elements

    public int element(int kind) {
        if (!Elements.isKind(kind)) {
            return finding(BEYOND);
        }
        if (elements.isFull()) {
            return finding(FULL);
        }
        return elements.add(kind);
    }

    public int as(int element, int kind) {
        if (!elements.has(element) || !Elements.isKind(kind)) {
            return finding(BEYOND);
        }
        if (!elements.isUnder(element, kind)) {
            return finding(KIND);
        }
        return elements.allowanceOf(element);
    }

    public int allow(int base, int more) {
        if (!isWithin(base, 0, MOST_ALLOWED) || !isWithin(more, 0, MOST_ALLOWED)) {
            return finding(BEYOND);
        }
        elements.setAllowances(base, more);
        return 1;
    }

    public int film(int rater, int is, int told) {
        if (!isRater(rater) || !isPace(is) || !isPace(told)) {
            return finding(BEYOND);
        }
        if (watch.isFullOfFilms()) {
            return finding(FULL);
        }
        return watch.addFilm(rater, told - is);
    }

    public int habit(int rater) {
        if (!isRater(rater)) {
            return finding(BEYOND);
        }
        return watch.habitOf(rater);
    }

    public int cycle(int element, int rater, int pace, int time) {
        if (!elements.has(element) || !isRater(rater) || !isPace(pace) || !isWithin(time, 1, MOST_TIME)) {
            return finding(BEYOND);
        }
        if (watch.isFullOfCycles()) {
            return finding(FULL);
        }
        return watch.addCycle(element, rater, pace, time);
    }

    public int normal(int cycle) {
        if (!isWithin(cycle, 0, watch.cycleMany() - 1)) {
            return finding(BEYOND);
        }
        return watch.normalOf(cycle);
    }

    public int of(int element, int what) {
        if (!elements.has(element) || !isWithin(what, 0, Watch.GREATEST)) {
            return finding(BEYOND);
        }
        if (what == 0) {
            return elements.kindOf(element);
        }
        watch.study(element);
        if (what > Watch.TIMED && watch.studied(Watch.TIMED) == 0) {
            return finding(NONE);
        }
        return watch.studied(what);
    }

    // ---- jobs and rates

    public int job() {
        if (jobs.isFull()) {
            return finding(FULL);
        }
        return jobs.add();
    }

    public int part(int job, int element, int often) {
        if (!jobs.has(job) || !elements.has(element) || !isWithin(often, 1, MOST_OFTEN)) {
            return finding(BEYOND);
        }
        if (jobs.placeOf(job, element) != NOTHING || rates.latestOf(job) != NOTHING) {
            return finding(STATE);
        }
        if (jobs.isFullOfParts(job)) {
            return finding(FULL);
        }
        return jobs.addPart(job, element, often);
    }

    public int set(int job) {
        if (!jobs.has(job)) {
            return finding(BEYOND);
        }
        if (rates.latestOf(job) != NOTHING || jobs.partMany(job) == 0) {
            return finding(STATE);
        }
        return newRate(job, now);
    }

    public int change(int element) {
        if (!elements.has(element)) {
            return finding(BEYOND);
        }
        int marked = 0;
        for (int job = 0; job < jobs.many(); job++) {
            int place = jobs.placeOf(job, element);
            if (place != NOTHING && rates.latestOf(job) != NOTHING) {
                jobs.mark(job, place);
                marked++;
            }
        }
        return marked;
    }

    public int move(int job) {
        if (!jobs.has(job)) {
            return finding(BEYOND);
        }
        int latest = rates.latestOf(job);
        if (latest == NOTHING || !rates.mayMove(latest, rules.valueOf(Rules.SHARE))) {
            return finding(STATE);
        }
        int from = Math.max(now + rules.valueOf(Rules.KEEP), rates.beginOf(latest));
        return newRate(job, from);
    }

    public int rate(int job, int week) {
        if (!jobs.has(job) || !isWeek(week)) {
            return finding(BEYOND);
        }
        int found = rates.inForce(job, week);
        if (found == NOTHING) {
            return finding(NONE);
        }
        return rates.sumOf(found);
    }

    public int worth(int job, int week, int i) {
        if (!jobs.has(job) || !isWeek(week) || !isWithin(i, 0, jobs.partMany(job) - 1)) {
            return finding(BEYOND);
        }
        int found = rates.inForce(job, week);
        if (found == NOTHING) {
            return finding(NONE);
        }
        return rates.worthOf(found, i);
    }

    public int week(int week) {
        if (!isWithin(week, now, LAST_WEEK)) {
            return finding(BEYOND);
        }
        int went = week - now;
        now = week;
        return went;
    }

    // ---- rules

    public int feed(int b) {
        if (!isWithin(b, 0, 255)) {
            return finding(BEYOND);
        }
        if (rules.isFullOfBytes()) {
            return finding(FULL);
        }
        return rules.addByte(b);
    }

    public int read() {
        return rules.takeTape();
    }

    public int rule(int what) {
        if (!isWithin(what, 0, Rules.MANY - 1)) {
            return finding(BEYOND);
        }
        return rules.valueOf(what);
    }

    // ---- weeks

    public int work(int week, int on, int pieces, int minutes) {
        if (!isWithin(week, 0, now) || !isOn(on) || !isWithin(pieces, 0, MOST_PIECES)) {
            return finding(BEYOND);
        }
        if (!isWithin(minutes, 1, MOST_MINUTES) && !isWithin(minutes, -MOST_MINUTES, -1)) {
            return finding(BEYOND);
        }
        if (rates.inForce(on / 10, week) == NOTHING) {
            return finding(NONE);
        }
        if (rows.isFull()) {
            return finding(FULL);
        }
        return rows.add(week, on, pieces, minutes);
    }

    public int wait(int week, int worker, int cause, int minutes) {
        if (!isWithin(week, 0, now) || !isWorker(worker) || !isCause(cause)
                || !isWithin(minutes, 1, MOST_MINUTES)) {
            return finding(BEYOND);
        }
        if (waits.isFull()) {
            return finding(FULL);
        }
        return waits.add(week, worker, cause, minutes);
    }

    public int learner(int worker, int job, int week) {
        if (!isWorker(worker) || !jobs.has(job) || !isWithin(week, NOTHING, LAST_WEEK)) {
            return finding(BEYOND);
        }
        return rows.swapBegin(worker, job, week);
    }

    public int earned(int row) {
        if (!isWithin(row, 0, rows.many() - 1)) {
            return finding(BEYOND);
        }
        return rows.earnedBy(row);
    }

    public int pay(int worker, int week, int what) {
        if (!isWorker(worker) || !isWeek(week) || !isWithin(what, 0, 4)) {
            return finding(BEYOND);
        }
        return pays.tellOf(worker, week, what);
    }

    public int cause(int cause) {
        if (!isCause(cause)) {
            return finding(BEYOND);
        }
        return waits.minutesFor(cause);
    }

    public int pool(int workers, int week, int worker) {
        if (!isWithin(workers, 1, 255) || !isWeek(week) || !isWorker(worker) || !isIn(workers, worker)) {
            return finding(BEYOND);
        }
        return orNone(pays.shareOf(workers, week, worker));
    }

    // ---- loose and tight, slow

    public int efficiency(int worker, int job) {
        if (!isWorker(worker) || !jobs.has(job)) {
            return finding(BEYOND);
        }
        doubt.survey();
        return orNone(doubt.efficiencyOf(worker, job));
    }

    public int looser(int job, int than) {
        if (!jobs.has(job) || !jobs.has(than) || job == than) {
            return finding(BEYOND);
        }
        doubt.survey();
        return doubt.isLooser(job, than) ? 1 : 0;
    }

    public int order(int i) {
        if (i < 0) {
            return finding(BEYOND);
        }
        doubt.survey();
        return orNone(doubt.jobAt(i));
    }

    public int slow(int worker, int job) {
        if (!isWorker(worker) || !jobs.has(job)) {
            return finding(BEYOND);
        }
        slowness.gather(worker, job);
        if (!slowness.canTell()) {
            return finding(NONE);
        }
        return slowness.isBeyondDoubt() ? 1 : 0;
    }

    // ---- what is told

    public int tell(int v) {
        if (numberMany >= MOST_NUMBERS) {
            return finding(FULL);
        }
        numbers[numberMany] = v;
        numberMany++;
        return numberMany;
    }

    public int check(int week) {
        int many = numberMany;
        numberMany = 0;
        if (!isWeek(week)) {
            return finding(BEYOND);
        }
        for (int i = 0; i < many; i++) {
            if (numbers[i] != pays.allOf(i, week)) {
                return 1 + i;
            }
        }
        return 0;
    }

    public int count(int what) {
        switch (what) {
            case 0: return elements.many();
            case 1: return watch.cycleMany();
            case 2: return watch.filmMany();
            case 3: return jobs.many();
            case 4: return rates.many();
            case 5: return now;
            case 6: return rows.many();
            case 7: return waits.many();
            case 8: return rules.byteMany();
            case 9: return numberMany;
            default: return finding(BEYOND);
        }
    }

    public int found(int k) {
        if (!isWithin(k, BEYOND, KIND)) {
            return finding(BEYOND);
        }
        return findings[k];
    }

    // ---- what the calls share

    private int finding(int k) {
        findings[k]++;
        return LOW - k;
    }

    private int orNone(int found) {
        return found == NOTHING ? finding(NONE) : found;
    }

    private int newRate(int job, int from) {
        if (!rates.canMake(job)) {
            return finding(NONE);
        }
        if (rates.isFull()) {
            return finding(FULL);
        }
        return rates.make(job, from);
    }

    private boolean isOn(int on) {
        return on >= 0 && jobs.has(on / 10) && isWorker(on % 10);
    }

    private static boolean isWithin(int v, int least, int most) {
        return v >= least && v <= most;
    }

    private static boolean isWeek(int week) {
        return isWithin(week, 0, LAST_WEEK);
    }

    private static boolean isRater(int rater) {
        return isWithin(rater, 0, RATERS - 1);
    }

    private static boolean isPace(int pace) {
        return isWithin(pace, LEAST_PACE, MOST_PACE);
    }

    private static boolean isWorker(int worker) {
        return isWithin(worker, 0, WORKERS - 1);
    }

    private static boolean isCause(int cause) {
        return isWithin(cause, 0, CAUSES - 1);
    }

    private static boolean isIn(int workers, int worker) {
        return (workers >> worker & 1) == 1;
    }

    /** Elements, their kinds and what is allowed for them. */
    private static final class Elements {
        private static final int MOST = 12;
        private static final int ELEMENT = 0;
        private static final int HANDLING = 1;
        private static final int STRAIN = 2;
        private static final int MACHINE = 3;
        private static final int[] ABOVE = {NOTHING, ELEMENT, HANDLING, ELEMENT};

        private final int[] kinds = new int[MOST];
        private int many;
        private int base = 10;
        private int more = 5;

        static boolean isKind(int kind) {
            return isWithin(kind, ELEMENT, MACHINE);
        }

        int many() {
            return many;
        }

        boolean has(int element) {
            return isWithin(element, 0, many - 1);
        }

        boolean isFull() {
            return many >= MOST;
        }

        int add(int kind) {
            kinds[many] = kind;
            many++;
            return many - 1;
        }

        int kindOf(int element) {
            return kinds[element];
        }

        boolean isUnder(int element, int kind) {
            int at = kinds[element];
            for (int steps = 0; steps < ABOVE.length && at != NOTHING; steps++) {
                if (at == kind) {
                    return true;
                }
                at = ABOVE[at];
            }
            return false;
        }

        void setAllowances(int newBase, int newMore) {
            base = newBase;
            more = newMore;
        }

        int allowanceOf(int element) {
            switch (kinds[element]) {
                case HANDLING: return base + more;
                case STRAIN: return base + 3 * more;
                case MACHINE: return base / 2;
                default: return base;
            }
        }
    }

    /** Films and cycles, and what an element's cycles come to. */
    private static final class Watch {
        private static final int FILMS = 20;
        private static final int CYCLES = 60;
        private static final int TIMED = 1;
        private static final int KEPT = 2;
        private static final int LEVEL = 3;
        private static final int STANDARD = 4;
        private static final int LEAST = 5;
        private static final int GREATEST = 6;

        private final Elements elements;
        private final int[] toldMore = new int[RATERS];
        private final int[] filmsOf = new int[RATERS];
        private int films;
        private final int[] elementOf = new int[CYCLES];
        private final int[] raterOf = new int[CYCLES];
        private final int[] paceOf = new int[CYCLES];
        private final int[] timeOf = new int[CYCLES];
        private int cycles;

        // What study() found of the element that it looked at last.
        private final int[] normals = new int[CYCLES];
        private int timed;
        private int kept;
        private int level;
        private int standard;
        private int least;
        private int greatest;

        Watch(Elements elements) {
            this.elements = elements;
        }

        int filmMany() {
            return films;
        }

        int cycleMany() {
            return cycles;
        }

        boolean isFullOfFilms() {
            return films >= FILMS;
        }

        boolean isFullOfCycles() {
            return cycles >= CYCLES;
        }

        int addFilm(int rater, int more) {
            toldMore[rater] += more;
            filmsOf[rater]++;
            films++;
            return films;
        }

        int habitOf(int rater) {
            return filmsOf[rater] == 0 ? 0 : toldMore[rater] / filmsOf[rater];
        }

        int addCycle(int element, int rater, int pace, int time) {
            elementOf[cycles] = element;
            raterOf[cycles] = rater;
            paceOf[cycles] = pace;
            timeOf[cycles] = time;
            cycles++;
            return cycles;
        }

        int normalOf(int cycle) {
            int pace = Math.max(1, paceOf[cycle] - habitOf(raterOf[cycle]));
            return timeOf[cycle] * pace / 100;
        }

        boolean isTimed(int element) {
            for (int cycle = 0; cycle < cycles; cycle++) {
                if (elementOf[cycle] == element) {
                    return true;
                }
            }
            return false;
        }

        /** Reckons anew each time: a film told since may have moved every normal. */
        void study(int element) {
            gatherNormals(element);
            keepNormals();
            int hundredths = level * (100 + elements.allowanceOf(element));
            standard = hundredths / 100 + (hundredths % 100 == 0 ? 0 : 1);
        }

        int studied(int what) {
            switch (what) {
                case TIMED: return timed;
                case KEPT: return kept;
                case LEVEL: return level;
                case STANDARD: return standard;
                case LEAST: return least;
                default: return greatest;
            }
        }

        private void gatherNormals(int element) {
            timed = 0;
            for (int cycle = 0; cycle < cycles; cycle++) {
                if (elementOf[cycle] == element) {
                    putInOrder(normalOf(cycle));
                }
            }
        }

        private void putInOrder(int normal) {
            int place = timed;
            while (place > 0 && normals[place - 1] > normal) {
                normals[place] = normals[place - 1];
                place--;
            }
            normals[place] = normal;
            timed++;
        }

        private void keepNormals() {
            int middle = timed == 0 ? 0 : normals[(timed - 1) / 2];
            int together = 0;
            kept = 0;
            for (int i = 0; i < timed; i++) {
                if (Math.abs(normals[i] - middle) <= middle / 4) {
                    least = kept == 0 ? normals[i] : least;
                    greatest = normals[i];
                    together += normals[i];
                    kept++;
                }
            }
            level = kept == 0 ? 0 : together / kept;
        }
    }

    /** Jobs, their parts, and which parts wait for a new worth. */
    private static final class Jobs {
        private static final int PARTS = 6;

        private final int[] partsOf = new int[JOBS];
        private final int[] elementOf = new int[JOBS * PARTS];
        private final int[] oftenOf = new int[JOBS * PARTS];
        private final boolean[] marked = new boolean[JOBS * PARTS];
        private int many;

        int many() {
            return many;
        }

        boolean has(int job) {
            return isWithin(job, 0, many - 1);
        }

        boolean isFull() {
            return many >= JOBS;
        }

        int add() {
            many++;
            return many - 1;
        }

        int partMany(int job) {
            return partsOf[job];
        }

        boolean isFullOfParts(int job) {
            return partsOf[job] >= PARTS;
        }

        /** A new part is marked at once: it has no worth yet, so that the first rate is made as any other. */
        int addPart(int job, int element, int often) {
            int at = job * PARTS + partsOf[job];
            elementOf[at] = element;
            oftenOf[at] = often;
            marked[at] = true;
            partsOf[job]++;
            return partsOf[job];
        }

        int placeOf(int job, int element) {
            for (int i = 0; i < partsOf[job]; i++) {
                if (elementOf[job * PARTS + i] == element) {
                    return i;
                }
            }
            return NOTHING;
        }

        int elementAt(int job, int i) {
            return elementOf[job * PARTS + i];
        }

        int oftenAt(int job, int i) {
            return oftenOf[job * PARTS + i];
        }

        boolean isMarked(int job, int i) {
            return marked[job * PARTS + i];
        }

        void mark(int job, int i) {
            marked[job * PARTS + i] = true;
        }

        void clearMarks(int job) {
            for (int i = 0; i < partsOf[job]; i++) {
                marked[job * PARTS + i] = false;
            }
        }
    }

    /** Rates of all jobs, in the order in which they were made. */
    private static final class Rates {
        private static final int MOST = 40;

        private final Jobs jobs;
        private final Watch watch;
        private final int[] jobOf = new int[MOST];
        private final int[] begins = new int[MOST];
        private final int[] sums = new int[MOST];
        private final int[] worths = new int[MOST * Jobs.PARTS];
        private int many;

        Rates(Jobs jobs, Watch watch) {
            this.jobs = jobs;
            this.watch = watch;
        }

        int many() {
            return many;
        }

        boolean isFull() {
            return many >= MOST;
        }

        int beginOf(int rate) {
            return begins[rate];
        }

        int sumOf(int rate) {
            return sums[rate];
        }

        int worthOf(int rate, int i) {
            return worths[rate * Jobs.PARTS + i];
        }

        int latestOf(int job) {
            for (int rate = many - 1; rate >= 0; rate--) {
                if (jobOf[rate] == job) {
                    return rate;
                }
            }
            return NOTHING;
        }

        int inForce(int job, int week) {
            for (int rate = many - 1; rate >= 0; rate--) {
                if (jobOf[rate] == job && begins[rate] <= week) {
                    return rate;
                }
            }
            return NOTHING;
        }

        /** Whether enough of a job's latest rate is marked. */
        boolean mayMove(int latest, int share) {
            int job = jobOf[latest];
            boolean any = false;
            int together = 0;
            for (int i = 0; i < jobs.partMany(job); i++) {
                if (jobs.isMarked(job, i)) {
                    any = true;
                    together += worthOf(latest, i) * jobs.oftenAt(job, i);
                }
            }
            // Multiplied, not divided: a share that is short by a fraction is short.
            return any && together * 100 >= share * sums[latest];
        }

        boolean canMake(int job) {
            for (int i = 0; i < jobs.partMany(job); i++) {
                if (jobs.isMarked(job, i) && !watch.isTimed(jobs.elementAt(job, i))) {
                    return false;
                }
            }
            return true;
        }

        int make(int job, int from) {
            int latest = latestOf(job);
            int sum = 0;
            for (int i = 0; i < jobs.partMany(job); i++) {
                int worth;
                if (latest == NOTHING || jobs.isMarked(job, i)) {
                    watch.study(jobs.elementAt(job, i));
                    worth = watch.studied(Watch.STANDARD);
                } else {
                    worth = worthOf(latest, i);
                }
                worths[many * Jobs.PARTS + i] = worth;
                sum += worth * jobs.oftenAt(job, i);
            }
            jobs.clearMarks(job);
            jobOf[many] = job;
            begins[many] = from;
            sums[many] = sum;
            many++;
            return sum;
        }
    }

    /** The rules that hold, and the tape from which new ones are read. */
    private static final class Rules {
        private static final int SHARE = 0;
        private static final int KEEP = 1;
        private static final int WAIT = 2;
        private static final int FREE = 3;
        private static final int SURE = 4;
        private static final int MANY = 5;
        private static final int BYTES = 60;
        private static final int DIGITS = 3;
        private static final int FAULTY = -10;
        private static final int[] GREATEST = {100, 52, 100, 100, 100};

        private final int[] values = {10, 4, 50, 3, 80};
        private final int[] newValues = new int[MANY];
        private final int[] bytes = new int[BYTES];
        private int length;
        /** Where the reading stands; where it stops short is the fault. */
        private int place;

        int valueOf(int what) {
            return values[what];
        }

        int byteMany() {
            return length;
        }

        boolean isFullOfBytes() {
            return length >= BYTES;
        }

        int addByte(int b) {
            bytes[length] = b;
            length++;
            return length;
        }

        int takeTape() {
            boolean stands = readClauses();
            length = 0;
            return stands ? takeNewValues() : FAULTY - place;
        }

        private int takeNewValues() {
            int many = 0;
            for (int what = 0; what < MANY; what++) {
                if (newValues[what] != NOTHING) {
                    values[what] = newValues[what];
                    many++;
                }
            }
            return many;
        }

        /** One clause more than there are words is tried, so that what follows all words is a fault. */
        private boolean readClauses() {
            Arrays.fill(newValues, NOTHING);
            place = 0;
            for (int clauses = 0; clauses <= MANY && place < length; clauses++) {
                if (!readClause()) {
                    return false;
                }
            }
            return true;
        }

        private boolean readClause() {
            int what = readWord();
            if (what == NOTHING || !readSign(' ')) {
                return false;
            }
            int n = readNumber();
            if (n == NOTHING || n > GREATEST[what] || !readSign(';')) {
                return false;
            }
            newValues[what] = n;
            return true;
        }

        /** Words told already are passed over: no text that stands goes on with one of them. */
        private int readWord() {
            int most = 0;
            for (int what = 0; what < MANY; what++) {
                if (newValues[what] == NOTHING) {
                    String word = wordOf(what);
                    int alike = alikeWith(word);
                    if (alike == word.length()) {
                        place += alike;
                        return what;
                    }
                    most = Math.max(most, alike);
                }
            }
            place += most;
            return NOTHING;
        }

        private int alikeWith(String word) {
            int alike = 0;
            while (alike < word.length() && place + alike < length
                    && bytes[place + alike] == word.charAt(alike)) {
                alike++;
            }
            return alike;
        }

        private boolean readSign(char sign) {
            if (place >= length || bytes[place] != sign) {
                return false;
            }
            place++;
            return true;
        }

        private int readNumber() {
            int n = NOTHING;
            for (int digits = 0; digits < DIGITS && place < length; digits++) {
                if (!isWithin(bytes[place], '0', '9')) {
                    return n;
                }
                n = Math.max(n, 0) * 10 + bytes[place] - '0';
                place++;
            }
            return n;
        }

        private static String wordOf(int what) {
            switch (what) {
                case SHARE: return "share";
                case KEEP: return "keep";
                case WAIT: return "wait";
                case FREE: return "free";
                default: return "sure";
            }
        }
    }

    /** Rows of work, who learned when, and what the rows earn. */
    private static final class WorkRows {
        private static final int MOST = 100;
        private static final int WEEKS_BEHIND = 3;

        private final Rates rates;
        private final Rules rules;
        private final int[] weekOf = new int[MOST];
        private final int[] workerOf = new int[MOST];
        private final int[] jobOf = new int[MOST];
        private final int[] good = new int[MOST];
        private final int[] spoilt = new int[MOST];
        private final int[] minutesOf = new int[MOST];
        private final boolean[] watched = new boolean[MOST];
        private final int[] began = new int[WORKERS * JOBS];
        private int many;

        WorkRows(Rates rates, Rules rules) {
            this.rates = rates;
            this.rules = rules;
            Arrays.fill(began, NOTHING);
        }

        int many() {
            return many;
        }

        boolean isFull() {
            return many >= MOST;
        }

        int add(int week, int on, int pieces, int minutes) {
            weekOf[many] = week;
            workerOf[many] = on % 10;
            jobOf[many] = on / 10;
            good[many] = pieces / 1000;
            spoilt[many] = pieces % 1000;
            minutesOf[many] = Math.abs(minutes);
            watched[many] = minutes < 0;
            many++;
            return many - 1;
        }

        int swapBegin(int worker, int job, int week) {
            int before = began[worker * JOBS + job];
            began[worker * JOBS + job] = week;
            return before;
        }

        int workerAt(int row) {
            return workerOf[row];
        }

        int jobAt(int row) {
            return jobOf[row];
        }

        int goodAt(int row) {
            return good[row];
        }

        int minutesAt(int row) {
            return minutesOf[row];
        }

        boolean isWatched(int row) {
            return watched[row];
        }

        int earnedBy(int row) {
            int rate = rates.inForce(jobOf[row], weekOf[row]);
            if (rate == NOTHING) {
                return 0;
            }
            int free = good[row] * rules.valueOf(Rules.FREE) / 100;
            int paid = good[row] + Math.min(spoilt[row], free);
            int plain = paid * rates.sumOf(rate) / 100;
            return plain + learnersMore(row, plain);
        }

        int earnedIn(int week, int worker) {
            int together = 0;
            for (int row = 0; row < many; row++) {
                if (weekOf[row] == week && workerOf[row] == worker) {
                    together += earnedBy(row);
                }
            }
            return together;
        }

        int minutesIn(int week, int worker) {
            int together = 0;
            for (int row = 0; row < many; row++) {
                if (weekOf[row] == week && workerOf[row] == worker) {
                    together += minutesOf[row];
                }
            }
            return together;
        }

        private int learnersMore(int row, int plain) {
            int begin = began[workerOf[row] * JOBS + jobOf[row]];
            int behind = weekOf[row] - begin;
            if (begin == NOTHING || !isWithin(behind, 0, WEEKS_BEHIND)) {
                return 0;
            }
            return behind == 0 ? plain / 2 : plain / 4;
        }
    }

    /** Rows of waiting. */
    private static final class WaitRows {
        private static final int MOST = 60;

        private final int[] weekOf = new int[MOST];
        private final int[] workerOf = new int[MOST];
        private final int[] minutesOf = new int[MOST];
        private final int[] minutesOfCause = new int[CAUSES];
        private int many;

        int many() {
            return many;
        }

        boolean isFull() {
            return many >= MOST;
        }

        int add(int week, int worker, int cause, int minutes) {
            weekOf[many] = week;
            workerOf[many] = worker;
            minutesOf[many] = minutes;
            minutesOfCause[cause] += minutes;
            many++;
            return many;
        }

        int minutesFor(int cause) {
            return minutesOfCause[cause];
        }

        int minutesIn(int week, int worker) {
            int together = 0;
            for (int row = 0; row < many; row++) {
                if (weekOf[row] == week && workerOf[row] == worker) {
                    together += minutesOf[row];
                }
            }
            return together;
        }
    }

    /** What workers get for a week, alone or of a pool. */
    private static final class Pays {
        private final WorkRows rows;
        private final WaitRows waits;
        private final Rules rules;

        Pays(WorkRows rows, WaitRows waits, Rules rules) {
            this.rows = rows;
            this.waits = waits;
            this.rules = rules;
        }

        int tellOf(int worker, int week, int what) {
            switch (what) {
                case 1: return rows.earnedIn(week, worker);
                case 2: return forWaiting(worker, week);
                case 3: return rows.minutesIn(week, worker);
                case 4: return waits.minutesIn(week, worker);
                default: return allOf(worker, week);
            }
        }

        int allOf(int worker, int week) {
            int minutes = rows.minutesIn(week, worker) + waits.minutesIn(week, worker);
            int sure = minutes * rules.valueOf(Rules.SURE) / 100;
            return Math.max(sure, rows.earnedIn(week, worker) + forWaiting(worker, week));
        }

        private int forWaiting(int worker, int week) {
            return waits.minutesIn(week, worker) * rules.valueOf(Rules.WAIT) / 100;
        }

        /** What a worker gets of a pool, or NOTHING if nobody of it has minutes of work. */
        int shareOf(int workers, int week, int worker) {
            long all = 0;
            long minutes = 0;
            for (int w = 0; w < WORKERS; w++) {
                if (isIn(workers, w)) {
                    all += allOf(w, week);
                    minutes += rows.minutesIn(week, w);
                }
            }
            if (minutes == 0) {
                return NOTHING;
            }
            long left = all;
            int aheadWithMinutes = 0;
            for (int w = 0; w < WORKERS; w++) {
                int own = isIn(workers, w) ? rows.minutesIn(week, w) : 0;
                left -= all * own / minutes;
                aheadWithMinutes += own > 0 && w < worker ? 1 : 0;
            }
            int own = rows.minutesIn(week, worker);
            int oneMore = own > 0 && aheadWithMinutes < left ? 1 : 0;
            return (int) (all * own / minutes) + oneMore;
        }
    }

    /** Which jobs are loose or tight beyond doubt. */
    private static final class Doubt {
        private static final int TWENTIETH = 20;

        private final WorkRows rows;
        private final long[] earned = new long[WORKERS * JOBS];
        private final int[] minutes = new int[WORKERS * JOBS];
        private final int[] scores = new int[JOBS];

        Doubt(WorkRows rows) {
            this.rows = rows;
        }

        /** Goes through the rows once, so that no pair of jobs has to do it again. */
        void survey() {
            Arrays.fill(earned, 0L);
            Arrays.fill(minutes, 0);
            for (int row = 0; row < rows.many(); row++) {
                int at = rows.workerAt(row) * JOBS + rows.jobAt(row);
                earned[at] += rows.earnedBy(row);
                minutes[at] += rows.minutesAt(row);
            }
        }

        int efficiencyOf(int worker, int job) {
            int at = worker * JOBS + job;
            return minutes[at] == 0 ? NOTHING : (int) (100 * earned[at] / minutes[at]);
        }

        boolean isLooser(int job, int than) {
            int unlike = 0;
            int greater = 0;
            for (int worker = 0; worker < WORKERS; worker++) {
                int first = efficiencyOf(worker, job);
                int second = efficiencyOf(worker, than);
                if (first != NOTHING && second != NOTHING && first != second) {
                    unlike++;
                    greater += first > second ? 1 : 0;
                }
            }
            return unlike > 0 && TWENTIETH * waysToChoose(greater, unlike) <= 1 << unlike;
        }

        int jobAt(int i) {
            reckonScores();
            for (int job = 0; job < JOBS; job++) {
                if (hasRows(job) && manyAhead(job) == i) {
                    return job;
                }
            }
            return NOTHING;
        }

        private boolean hasRows(int job) {
            for (int worker = 0; worker < WORKERS; worker++) {
                if (minutes[worker * JOBS + job] > 0) {
                    return true;
                }
            }
            return false;
        }

        private void reckonScores() {
            Arrays.fill(scores, 0);
            for (int job = 0; job < JOBS; job++) {
                for (int than = 0; than < JOBS; than++) {
                    if (job != than && isLooser(job, than)) {
                        scores[job]++;
                        scores[than]--;
                    }
                }
            }
        }

        private int manyAhead(int job) {
            int ahead = 0;
            for (int other = 0; other < JOBS; other++) {
                boolean first = scores[other] > scores[job] || scores[other] == scores[job] && other < job;
                ahead += first && hasRows(other) ? 1 : 0;
            }
            return ahead;
        }

        /** The ways to choose k or more of n. */
        private static int waysToChoose(int k, int n) {
            int ways = 1;
            int together = 0;
            for (int i = 0; i <= n; i++) {
                together += i >= k ? ways : 0;
                ways = ways * (n - i) / (i + 1);
            }
            return together;
        }
    }

    /** Whether a worker slows for the watch on a job. */
    private static final class Slowness {
        private static final int TWENTIETH = 20;
        private static final int MOST = 14;
        /** All ranks of n rows come to n times (n less 1), whatever the paces. */
        private static final int MOST_RANKS = MOST * (MOST - 1);

        private final WorkRows rows;
        private final int[] paces = new int[MOST];
        private final boolean[] watched = new boolean[MOST];
        private final int[][] ways = new int[MOST + 1][MOST_RANKS + 1];
        private int many;
        private int watchedMany;

        Slowness(WorkRows rows) {
            this.rows = rows;
        }

        void gather(int worker, int job) {
            many = 0;
            watchedMany = 0;
            for (int row = 0; row < rows.many() && many < MOST; row++) {
                boolean its = rows.workerAt(row) == worker && rows.jobAt(row) == job;
                if (its && rows.goodAt(row) > 0) {
                    paces[many] = rows.minutesAt(row) * 100 / rows.goodAt(row);
                    watched[many] = rows.isWatched(row);
                    watchedMany += watched[many] ? 1 : 0;
                    many++;
                }
            }
        }

        boolean canTell() {
            return watchedMany > 0 && watchedMany < many;
        }

        boolean isBeyondDoubt() {
            countWays();
            int bound = watchedRanks();
            int all = 0;
            int asGreat = 0;
            for (int ranks = 0; ranks <= MOST_RANKS; ranks++) {
                all += ways[watchedMany][ranks];
                asGreat += ranks >= bound ? ways[watchedMany][ranks] : 0;
            }
            return TWENTIETH * asGreat <= all;
        }

        private int watchedRanks() {
            int together = 0;
            for (int i = 0; i < many; i++) {
                together += watched[i] ? rankOf(i) : 0;
            }
            return together;
        }

        private int rankOf(int i) {
            int rank = 0;
            for (int other = 0; other < many; other++) {
                if (paces[other] < paces[i]) {
                    rank += 2;
                } else if (other != i && paces[other] == paces[i]) {
                    rank++;
                }
            }
            return rank;
        }

        /** Fills ways[m][s]: how many ways there are to choose m rows whose ranks come to s. */
        private void countWays() {
            for (int m = 0; m <= watchedMany; m++) {
                Arrays.fill(ways[m], 0);
            }
            ways[0][0] = 1;
            int together = 0;
            for (int i = 0; i < many; i++) {
                int rank = rankOf(i);
                together += rank;
                addRow(rank, Math.min(i + 1, watchedMany), together);
            }
        }

        /** From the most rows down, so that no row is chosen twice. */
        private void addRow(int rank, int mostRows, int mostRanks) {
            for (int m = mostRows; m > 0; m--) {
                for (int ranks = rank; ranks <= mostRanks; ranks++) {
                    ways[m][ranks] += ways[m - 1][ranks - rank];
                }
            }
        }
    }
}
