/** The sentences of the document's terms, from the first to the last, each with ordinary numbers. */
public final class TermsTest {
    private static final Due due = new Due();

    public static void main(String[] args) {
        findings();
        findingsInOrder();
        kinds();
        allowances();
        filmsOfARater();
        habitOfAllItsFilms();
        cyclesOfAnElement();
        normals();
        keptOnes();
        middles();
        levels();
        standards();
        partsOfJobs();
        weeks();
        worths();
        ratesAreSums();
        setFirst();
        marked();
        moved();
        movedLater();
        inForce();
        rulesFromTheTape();
        faults();
        work();
        waiting();
        earned();
        learners();
        pays();
        pools();
        efficiencies();
        looser();
        order();
        slow();
        due.end();
    }

    // ---- findings

    private static void findings() {
        due.by("FINDINGS are answers below -1000000000: LOW is -1000000000; LOW - 1 BEYOND");
        int low = -1000000000;
        due.is("BEYOND", low - 1, new BenchTimes().found(0));
        due.is("NONE", low - 2, new BenchTimes().order(0));
        BenchTimes x = new BenchTimes();
        x.job();
        due.is("STATE", low - 3, x.move(0));
        x.element(0);
        due.is("KIND", low - 5, x.as(0, 1));
        for (int i = 1; i < 8; i++) {
            x.job();
        }
        due.is("FULL", low - 4, x.job());
    }

    private static void findingsInOrder() {
        due.by("Each act tells its findings in the order in which they are asked; one that answers a finding changes "
                + "nothing but what found() tells.");
        BenchTimes x = new BenchTimes();
        x.element(0);
        x.job();
        x.part(0, 0, 1);
        due.is("no often, and it has that ELEMENT", Due.BEYOND, x.part(0, 0, 0));
        due.is("it has that ELEMENT", Due.STATE, x.part(0, 0, 2));
        due.is("no CYCLES", Due.NONE, x.set(0));
        due.is("no RATE came", 0, x.count(4));
        x.cycle(0, 0, 100, 100);
        due.is("how often is as it was", 110, x.set(0));
        due.is("it has one", Due.STATE, x.set(0));
        int[] found = {1, 1, 2, 0, 0};
        for (int k = 1; k <= 5; k++) {
            due.is("found(" + k + ")", found[k - 1], x.found(k));
        }
    }

    // ---- 1

    private static BenchTimes ofEachKind() {
        BenchTimes x = new BenchTimes();
        for (int kind = 0; kind < 4; kind++) {
            x.element(kind);
        }
        return x;
    }

    private static void kinds() {
        due.by("are of KINDS: 0 ELEMENT, 1 HANDLING under ELEMENT, 2 STRAIN under HANDLING, 3 MACHINE under ELEMENT.");
        BenchTimes x = ofEachKind();
        due.is("a HANDLING is an ELEMENT", 15, x.as(1, 0));
        due.is("a STRAIN is a HANDLING", 25, x.as(2, 1));
        due.is("and so an ELEMENT", 25, x.as(2, 0));
        due.is("a MACHINE is an ELEMENT", 5, x.as(3, 0));
        due.is("a MACHINE is no HANDLING", Due.KIND, x.as(3, 1));
        due.is("nor a STRAIN", Due.KIND, x.as(3, 2));
        due.is("a STRAIN is no MACHINE", Due.KIND, x.as(2, 3));
        due.is("an ELEMENT is no HANDLING", Due.KIND, x.as(0, 1));
        due.is("a HANDLING is no STRAIN", Due.KIND, x.as(1, 2));
    }

    private static void allowances() {
        due.by("ALLOWANCE in hundredths: of an ELEMENT BASE");
        BenchTimes x = ofEachKind();
        int[] atFirst = {220, 230, 250, 210};
        int[] then = {262, 276, 304, 230};
        for (int kind = 0; kind < 4; kind++) {
            x.cycle(kind, 0, 100, 200);
            due.is("200 and its ALLOWANCE", atFirst[kind], x.of(kind, 4));
        }
        x.allow(31, 7);
        for (int kind = 0; kind < 4; kind++) {
            due.is("200 and 31, 38, 52, 15 hundredths", then[kind], x.of(kind, 4));
        }
    }

    private static void filmsOfARater() {
        due.by("FILMS, at most 20: a RATER told of a film, whose pace is a true one (50 .. 150), another pace (50 .. 150).");
        BenchTimes x = new BenchTimes();
        x.film(1, 100, 120);
        x.film(2, 120, 90);
        int[] habits = {0, 20, -30, 0};
        for (int rater = 0; rater < 4; rater++) {
            due.is("habit of " + rater, habits[rater], x.habit(rater));
        }
    }

    private static void habitOfAllItsFilms() {
        due.by("HABIT of a RATER: what it told more than the true ones (less: below 0), in all its FILMS together");
        BenchTimes x = new BenchTimes();
        int[][] films = {{100, 110, 10}, {80, 80, 5}, {60, 61, 3}, {140, 132, 0}, {90, 70, -3}};
        for (int[] film : films) {
            x.film(3, film[0], film[1]);
            due.is("10, 0, 1, -8, -20 together, by how many", film[2], x.habit(3));
        }
        x.film(2, 100, 150);
        due.is("a film of another RATER is none of its own", -3, x.habit(3));
    }

    private static void cyclesOfAnElement() {
        due.by("CYCLES, at most 60: of an ELEMENT, by a RATER, a pace (50 .. 150) and a TIME (1 .. 999).");
        BenchTimes x = ofEachKind();
        x.film(1, 100, 120);
        x.cycle(0, 0, 100, 100);
        x.cycle(3, 1, 100, 100);
        x.cycle(0, 1, 140, 50);
        x.cycle(0, 0, 70, 300);
        int[] normals = {100, 80, 60, 210};
        for (int cycle = 0; cycle < 4; cycle++) {
            due.is("normal of " + cycle, normals[cycle], x.normal(cycle));
        }
        int[] many = {3, 0, 0, 1};
        for (int element = 0; element < 4; element++) {
            due.is("cycles of " + element, many[element], x.of(element, 1));
        }
    }

    private static void normals() {
        due.by("NORMAL of a CYCLE: TIME times (its pace less the HABIT, as it is now; 1 at least), by 100.");
        BenchTimes x = ofEachKind();
        x.film(0, 130, 100);
        x.cycle(0, 0, 90, 250);
        due.is("250 times 120", 300, x.normal(0));
        x.film(0, 70, 140);
        due.is("250 times 70", 175, x.normal(0));
        x.cycle(1, 0, 87, 333);
        due.is("333 times 67", 223, x.normal(1));
    }

    private static void keptOnes() {
        due.by("Of an ELEMENT's CYCLES those are KEPT whose NORMAL is no more than a quarter (cut) of their MIDDLE "
                + "away from it");
        BenchTimes x = ofEachKind();
        int[][] cycles = {{0, 100}, {1, 500}, {0, 131}, {1, 510}, {0, 110}, {0, 82}, {1, 20}, {0, 138}, {0, 81}};
        for (int[] cycle : cycles) {
            x.cycle(cycle[0], 0, 100, cycle[1]);
        }
        // 81 82 100 110 131 138: MIDDLE 100, from 75 on to 125; 20 500 510: MIDDLE 500.
        due.is("KEPT of the one", 4, x.of(0, 2));
        due.is("the least", 81, x.of(0, 5));
        due.is("the greatest", 110, x.of(0, 6));
        due.is("KEPT of the other", 2, x.of(1, 2));
        due.is("the least", 500, x.of(1, 5));
        due.is("the greatest", 510, x.of(1, 6));
    }

    private static void middles() {
        due.by("MIDDLE: of their NORMALS in order the one at place (how many, less 1) by 2, from 0 on.");
        // NORMALS 300, 100, 200 of TIMES 200, 100, 400: neither the one that came second nor the middle TIME.
        int[][] cycles = {{150, 200}, {100, 100}, {50, 400}};
        for (int first = 0; first < 3; first++) {
            BenchTimes x = ofEachKind();
            for (int i = 0; i < 3; i++) {
                int[] cycle = cycles[(first + i) % 3];
                x.cycle(0, 0, cycle[0], cycle[1]);
            }
            due.is("200 alone is near 200", 1, x.of(0, 2));
            due.is("200", 200, x.of(0, 3));
        }
        BenchTimes y = ofEachKind();
        y.cycle(0, 1, 100, 100);
        y.cycle(0, 0, 100, 300);
        y.cycle(0, 2, 100, 200);
        due.is("of 100, 200, 300", 200, y.of(0, 3));
        y.film(2, 50, 100);
        due.is("of 100, 100, 300 when a HABIT is known", 100, y.of(0, 3));
    }

    private static void levels() {
        due.by("LEVEL: KEPT NORMALS together, by how many.");
        BenchTimes x = ofEachKind();
        int[] times = {103, 95, 118, 400, 99, 9};
        int[] want = {103, 99, 105, 105, 103, 103};
        for (int i = 0; i < times.length; i++) {
            x.cycle(2, 0, 100, times[i]);
            due.is("behind " + times[i], want[i], x.of(2, 3));
        }
    }

    private static void standards() {
        due.by("STANDARD: LEVEL and its ALLOWANCE: LEVEL times (100 and ALLOWANCE), by 100, and 1 if there is a rest.");
        BenchTimes x = ofEachKind();
        // Of 276.10, 288.65, 313.75 and 263.55.
        int[] want = {277, 289, 314, 264};
        for (int kind = 0; kind < 4; kind++) {
            x.cycle(kind, 0, 100, 250);
            x.cycle(kind, 0, 100, 253);
            due.is("LEVEL of kind " + kind, 251, x.of(kind, 3));
            due.is("STANDARD of kind " + kind, want[kind], x.of(kind, 4));
        }
        x.allow(0, 0);
        due.is("without ALLOWANCE there is no rest", 251, x.of(0, 4));
    }

    // ---- 2

    /** ELEMENTS with a STANDARD of 110, 220, 330 .. */
    private static BenchTimes timed(int many) {
        BenchTimes x = new BenchTimes();
        for (int i = 0; i < many; i++) {
            x.element(0);
            x.cycle(i, 0, 100, 100 * (i + 1));
        }
        return x;
    }

    private static void partsOfJobs() {
        due.by("each a row of PARTS (at most 6): an ELEMENT and how often it is in one piece (1 .. 9); an ELEMENT is in a "
                + "JOB once");
        BenchTimes x = timed(3);
        x.job();
        x.job();
        due.is("the first of JOB 1", 1, x.part(1, 2, 4));
        due.is("the first of JOB 0", 1, x.part(0, 2, 1));
        due.is("the second of JOB 1", 2, x.part(1, 0, 9));
        due.is("it is in it", Due.STATE, x.part(1, 2, 4));
        due.is("the second of JOB 0", 2, x.part(0, 1, 2));
        due.is("330 and twice 220", 770, x.set(0));
        due.is("four times 330 and nine times 110", 2310, x.set(1));
    }

    private static void weeks() {
        due.by("WEEKS are 0 .. 500; the WEEK is 0 at first and never falls.");
        due.is("at first", 0, new BenchTimes().count(5));
        due.range("week", 0, 500, v -> new BenchTimes().week(v));
        due.range("pay", 0, 500, v -> new BenchTimes().pay(0, v, 0));
        due.range("check", 0, 500, v -> new BenchTimes().check(v));
        due.range("rate", 0, 500, v -> Due.withJobs(1).rate(0, v));
        due.range("worth", 0, 500, v -> Due.withJobs(1).worth(0, v, 0));
    }

    private static void worths() {
        due.by("from a WEEK on, made of WORTHS: of each of its PARTS (as they were then) what its ELEMENT was worth");
        BenchTimes x = timed(3);
        x.job();
        x.part(0, 1, 2);
        x.part(0, 0, 3);
        x.week(4);
        x.set(0);
        x.film(0, 100, 150);
        x.allow(50, 50);
        x.cycle(0, 0, 150, 999);
        for (int week = 4; week <= 500; week += 62) {
            due.is("PART 0 in WEEK " + week, 220, x.worth(0, week, 0));
            due.is("PART 1 in WEEK " + week, 110, x.worth(0, week, 1));
        }
    }

    private static void ratesAreSums() {
        due.by("the RATE is their sum, each times how often");
        BenchTimes x = timed(6);
        x.job();
        for (int i = 0; i < 6; i++) {
            x.part(0, i, 9 - i);
        }
        due.is("110 times 9 and 16 and 21 and 24 and 25 and 24", 13090, x.set(0));
        due.is("IN FORCE", 13090, x.rate(0, 0));
    }

    private static void setFirst() {
        due.by("It is SET first: WORTHS are STANDARDS; it is IN FORCE from the WEEK on.");
        BenchTimes x = timed(2);
        x.job();
        x.part(0, 0, 1);
        x.part(0, 1, 1);
        x.week(10);
        x.cycle(0, 0, 100, 103);
        due.is("112 and 220", 332, x.set(0));
        due.is("its STANDARD", 112, x.of(0, 4));
        due.is("the WEEK ahead", Due.NONE, x.rate(0, 9));
        due.is("the WEEK", 332, x.rate(0, 10));
        due.is("KEEP holds nothing back", 112, x.worth(0, 10, 0));
    }

    private static void marked() {
        due.by("MARKED is an ELEMENT of a JOB if it was told CHANGED since the JOB's latest RATE was made.");
        BenchTimes x = timed(2);
        x.job();
        x.job();
        x.part(0, 0, 1);
        x.part(0, 1, 1);
        x.part(1, 1, 1);
        x.change(0);
        x.set(0);
        x.set(1);
        due.is("told ahead of the RATE", Due.STATE, x.move(0));
        x.change(1);
        x.allow(20, 0);
        due.is("the second is MARKED, the first isn't", 110 + 240, x.move(0));
        due.is("its mark is gone", Due.STATE, x.move(0));
        due.is("that of the other JOB isn't", 240, x.move(1));
        x.change(0);
        due.is("not of the JOB that hasn't it", Due.STATE, x.move(1));
        due.is("of the one that has it", 120 + 240, x.move(0));
    }

    private static void moved() {
        due.by("It is MOVED: WORTHS of MARKED PARTS are STANDARDS (as they are now), of others as in the latest RATE");
        BenchTimes x = timed(3);
        x.job();
        x.part(0, 0, 2);
        x.part(0, 1, 1);
        x.part(0, 2, 3);
        due.is("220 and 220 and 990", 1430, x.set(0));
        x.cycle(0, 0, 100, 120);
        x.cycle(1, 0, 100, 240);
        x.cycle(2, 0, 100, 360);
        x.change(1);
        x.change(2);
        due.is("220 and 242 and 1089", 1551, x.move(0));
        int[] worths = {110, 242, 363};
        for (int i = 0; i < 3; i++) {
            due.is("worth " + i, worths[i], x.worth(0, 4, i));
        }
        x.change(0);
        due.is("242 and 242 and 1089", 1573, x.move(0));
        due.is("121 now", 121, x.worth(0, 4, 0));
        due.is("as in the first", 110, x.worth(0, 3, 0));
    }

    private static void movedLater() {
        due.by("it is IN FORCE KEEP WEEKS from the WEEK on (but not ahead of the latest one)");
        BenchTimes x = timed(1);
        x.job();
        x.part(0, 0, 1);
        x.set(0);
        due.reads(x, "keep 30;", 1);
        x.week(5);
        x.allow(20, 0);
        x.change(0);
        due.is("from 35 on", 120, x.move(0));
        due.reads(x, "keep 2;", 1);
        x.week(6);
        x.allow(30, 0);
        x.change(0);
        due.is("not from 8, but from 35 on", 130, x.move(0));
        due.is("8", 110, x.rate(0, 8));
        due.is("34", 110, x.rate(0, 34));
        due.is("35", 130, x.rate(0, 35));
        x.week(40);
        x.allow(40, 0);
        x.change(0);
        due.is("from 42 on", 140, x.move(0));
        due.is("41", 130, x.rate(0, 41));
        due.is("42", 140, x.rate(0, 42));
    }

    private static void inForce() {
        due.by("RATE IN FORCE in a WEEK: the one that was made last of those that are from then or ahead.");
        BenchTimes x = timed(2);
        x.job();
        x.job();
        x.part(0, 0, 1);
        x.part(1, 1, 1);
        x.week(1);
        x.set(0);
        x.week(2);
        x.set(1);
        x.allow(0, 0);
        x.change(0);
        x.change(1);
        x.move(0);
        x.week(3);
        x.move(1);
        int[][] want = {{Due.NONE, 110, 110, 110, 110, 110, 100, 100}, {Due.NONE, Due.NONE, 220, 220, 220, 220, 220, 200}};
        for (int job = 0; job < 2; job++) {
            for (int week = 0; week < 8; week++) {
                due.is("job " + job + " in WEEK " + week, want[job][week], x.rate(job, week));
            }
        }
    }

    // ---- 3

    private static void rulesFromTheTape() {
        due.by("They are read from THE TAPE (bytes, at most 60): { WORD blank N ; }");
        BenchTimes x = new BenchTimes();
        due.reads(x, "", 0);
        due.reads(x, "free 7;", 1);
        due.reads(x, "sure 65;share 0;", 2);
        due.reads(x, "keep 12;wait 33;free 1;", 3);
        int[] want = {0, 12, 33, 1, 65};
        for (int what = 0; what < 5; what++) {
            due.is("rule(" + what + ")", want[what], x.rule(what));
        }
        due.reads(x, "{free 7;}", -10);
    }

    private static void faults() {
        due.by("FAULT: the place of the first byte with which no such text begins (how many there are, if it ends too early)");
        BenchTimes x = new BenchTimes();
        due.reads(x, "keep12;", -14);
        due.reads(x, "keep 12", -17);
        due.reads(x, "keep 12;wai 5;", -21);
        due.reads(x, "keep 12;wait", -22);
        due.reads(x, "Keep 12;", -10);
        due.is("KEEP", 4, x.rule(1));
    }

    // ---- 4

    private static void work() {
        due.by("in a WEEK (not behind the WEEK), of a WORKER, on a JOB with a RATE IN FORCE then: GOOD and SPOILT pieces "
                + "(0 .. 999 each), MINUTES (1 .. 3000), WATCHED or not.");
        BenchTimes x = Due.withJobs(2);
        x.job();
        x.week(3);
        due.is("JOB 2 has no RATE", Due.NONE, x.work(3, 25, 20000, 60));
        due.is("the first row", 0, x.work(2, 15, 20000, 60));
        due.is("the second row", 1, x.work(3, 4, 30000, -70));
        due.is("of its WORKER in its WEEK", 60, x.pay(5, 2, 3));
        due.is("of its WORKER in its WEEK", 70, x.pay(4, 3, 3));
        due.is("of no other WORKER", 0, x.pay(4, 2, 3));
        due.is("on its JOB", 36, x.efficiency(5, 1));
        due.is("on no other JOB", Due.NONE, x.efficiency(5, 0));
        due.is("on its JOB", 47, x.efficiency(4, 0));
    }

    private static void waiting() {
        due.by("in a WEEK (not behind the WEEK, either), of a WORKER, a CAUSE (0 .. 3), MINUTES (1 .. 3000).");
        BenchTimes x = new BenchTimes();
        x.week(2);
        x.wait(1, 6, 2, 30);
        x.wait(2, 6, 2, 40);
        x.wait(2, 5, 3, 50);
        due.is("WEEK 1 of 6", 30, x.pay(6, 1, 4));
        due.is("WEEK 2 of 6", 40, x.pay(6, 2, 4));
        due.is("WEEK 2 of 5", 50, x.pay(5, 2, 4));
        due.is("WEEK 1 of 5", 0, x.pay(5, 1, 4));
        due.is("CAUSE 2", 70, x.cause(2));
        due.is("CAUSE 3", 50, x.cause(3));
    }

    private static void earned() {
        due.by("EARNED by a row: pieces that are paid times the RATE IN FORCE in its WEEK, by 100: GOOD ones, and of SPOILT "
                + "ones no more than FREE hundredths (cut) of GOOD.");
        BenchTimes x = Due.withRate(345);
        x.work(0, 0, 70001, 60);
        x.work(0, 0, 70009, 60);
        x.work(0, 0, 170009, 60);
        due.is("71 times 345", 244, x.earned(0));
        due.is("72 times 345", 248, x.earned(1));
        due.is("175 times 345", 603, x.earned(2));
        due.reads(x, "free 10;", 1);
        due.is("71 times 345", 244, x.earned(0));
        due.is("77 times 345", 265, x.earned(1));
        due.is("179 times 345", 617, x.earned(2));
    }

    private static void learners() {
        due.by("LEARNER: a WORKER who began on a JOB in a told WEEK: EARNED by rows on it in that WEEK is half as much again, "
                + "in the 3 WEEKS behind it a quarter as much again (the more is cut).");
        BenchTimes x = Due.withRate(100);
        x.week(12);
        int[] weeks = {7, 8, 9, 10, 11, 12};
        for (int week : weeks) {
            x.work(week, 3, 47000, 60);
            x.work(week, 4, 47000, 60);
        }
        x.learner(3, 0, 8);
        int[] want = {47, 70, 58, 58, 58, 47};
        for (int i = 0; i < weeks.length; i++) {
            due.is("WEEK " + weeks[i], want[i], x.earned(2 * i));
            due.is("of another one", 47, x.earned(2 * i + 1));
        }
    }

    private static void pays() {
        due.by("PAY of a WORKER in a WEEK: EARNED by its rows, and WAIT hundredths of its WAITING MINUTES (cut, of all "
                + "together); SURE hundredths of all its MINUTES (of WORK and WAITING, cut) at least.");
        BenchTimes x = Due.withJobs(2);
        x.work(0, 1, 33000, 40);
        x.work(0, 11, 44000, 30);
        x.wait(0, 1, 0, 17);
        x.wait(0, 1, 3, 18);
        due.is("36 and 48", 84, x.pay(1, 0, 1));
        due.is("half of 35", 17, x.pay(1, 0, 2));
        due.is("both, more than 84", 101, x.pay(1, 0, 0));
        due.reads(x, "wait 30;sure 95;", 2);
        due.is("30 hundredths of 35", 10, x.pay(1, 0, 2));
        due.is("95 hundredths of 105, more than 94", 99, x.pay(1, 0, 0));
    }

    private static void pools() {
        due.by("A POOL of WORKERS (bits) in a WEEK: PAYS of all of them together, shared by their MINUTES of WORK in that WEEK: "
                + "each gets all times its MINUTES, by all MINUTES, cut");
        BenchTimes x = Due.withRate(100);
        x.work(0, 1, 100000, 50);
        x.work(0, 3, 60000, 70);
        x.work(0, 6, 41000, 30);
        x.wait(0, 6, 1, 21);
        x.work(0, 7, 999000, 999);
        // 100, 60 and 51 are 211, by 50, 70 and 30 of 150: 70.3, 98.5, 42.2.
        int workers = 2 + 8 + 64;
        due.is("WORKER 1, and the 1 that is left over", 71, x.pool(workers, 0, 1));
        due.is("WORKER 3", 98, x.pool(workers, 0, 3));
        due.is("WORKER 6", 42, x.pool(workers, 0, 6));
        due.is("WORKER 7 isn't of it", Due.BEYOND, x.pool(workers, 0, 7));
    }

    // ---- 5

    private static void efficiencies() {
        due.by("EFFICIENCY of a WORKER on a JOB: 100 times EARNED by its rows on it, by their MINUTES together (all WEEKS).");
        BenchTimes x = Due.withJobs(2);
        x.week(9);
        x.work(1, 2, 31000, 40);
        x.work(5, 2, 52000, -70);
        x.work(9, 2, 7000, 11);
        x.work(9, 12, 99000, 11);
        x.work(9, 3, 99000, 11);
        due.is("34 and 57 and 7 by 121", 80, x.efficiency(2, 0));
        due.is("108 by 11", 981, x.efficiency(2, 1));
    }

    private static void looser() {
        due.by("A JOB is LOOSER than another one BEYOND DOUBT: of n WORKERS with rows on both, whose EFFICIENCIES on both are "
                + "unlike, k have the greater one on the first; the ways to choose k or more of n are at most a twentieth of "
                + "2 to the power of n, n above 0.");
        BenchTimes x = Due.withJobs(3);
        for (int worker = 0; worker < 8; worker++) {
            x.work(0, worker, 50000, 10);
            x.work(0, 10 + worker, worker == 3 ? 60000 : 40000, 10);
            x.work(0, 20 + worker, worker < 2 ? 60000 : 40000, 10);
        }
        due.is("7 of 8: 9 of 256 ways", 1, x.looser(0, 1));
        due.is("6 of 8: 37 of 256 ways", 0, x.looser(0, 2));
        due.is("1 of 8", 0, x.looser(1, 0));
        due.is("1 of 3, five are alike", 0, x.looser(1, 2));
    }

    private static void order() {
        due.by("THE ORDER of JOBS with rows: by how many others they are LOOSER than BEYOND DOUBT less how many are so than "
                + "they, the most first, of several the least number.");
        BenchTimes x = Due.withJobs(5);
        int[] good = {30000, 50000, 40000, 0, 50000};
        for (int job = 0; job < 5; job++) {
            for (int worker = 0; worker < 5 && job != 3; worker++) {
                x.work(0, 10 * job + worker, good[job], 10);
            }
        }
        int[] want = {1, 4, 2, 0, Due.NONE};
        for (int i = 0; i < 5; i++) {
            due.is("order(" + i + ")", want[i], x.order(i));
        }
    }

    private static void slow() {
        due.by("SLOW: of a WORKER on a JOB, rows with a GOOD piece or more, 14 at most (the first ones): PACE of each is "
                + "MINUTES times 100 by GOOD.");
        BenchTimes x = Due.withJobs(1);
        int[][] rows = {{10, 40}, {20, -90}, {10, 44}, {0, -1}, {5, -24}, {30, 120}, {10, -47}, {10, 43}};
        for (int[] row : rows) {
            x.work(0, 2, 1000 * row[0], row[1]);
        }
        due.by("it is SLOW for the watch if of all ways to choose m rows of n those whose RANKS together are as great as that "
                + "of the WATCHED ones, or greater, are at most a twentieth");
        // PACES 400 450w 440 480w 400 470w 430: the WATCHED ones are the three greatest, 1 of 35 ways.
        due.is("1 of 35 ways", 1, x.slow(2, 0));
        x.work(0, 2, 10000, 46);
        // One more of 460 stands between them: RANKS 14, 12 and 8 of 14, 12, 10, 8 .., 2 of 56 ways.
        due.is("2 of 56 ways", 1, x.slow(2, 0));
        x.work(0, 2, 10000, 49);
        due.is("11 of 84 ways", 0, x.slow(2, 0));
    }
}
