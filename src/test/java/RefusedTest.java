import java.util.ArrayList;
import java.util.List;
import java.util.function.Consumer;
import java.util.function.ToIntFunction;

/**
 * "One that answers a finding changes nothing but what found() tells": of two objects that were made alike one gets a
 * call that is refused; then both are asked for all that can be asked, and answer the same but for found().
 * No object is used for more than 512 calls.
 */
public final class RefusedTest {
    private static final int LOW = -1000000000;
    private static final Due due = new Due();
    private static final Consumer<BenchTimes> NOTHING = x -> { };

    public static void main(String[] args) {
        worldIsSeen();
        elementsRefused();
        jobsRefused();
        rulesRefused();
        workRefused();
        weeksRefused();
        looseRefused();
        toldRefused();
        fullOnes();
        faultsChangeTheTapeAlone();
        checkTakesTheNumbersAlone();
        askingChangesNothing();
        due.end();
    }

    /** Some of everything: JOB 0 has two RATES and a MARK, JOB 1 a RATE, JOB 2 none and an ELEMENT without CYCLES. */
    private static BenchTimes world() {
        BenchTimes x = new BenchTimes();
        for (int kind = 0; kind < 4; kind++) {
            x.element(kind);
        }
        x.allow(12, 7);
        x.film(1, 100, 104);
        x.film(2, 100, 93);
        int[][] cycles = {{0, 0, 100, 100}, {0, 1, 110, 99}, {0, 2, 90, 300}, {1, 2, 100, 80}, {2, 3, 120, 60}};
        for (int[] c : cycles) {
            x.cycle(c[0], c[1], c[2], c[3]);
        }
        int[][] parts = {{0, 0, 2}, {0, 1, 1}, {1, 2, 3}, {2, 3, 1}};
        for (int job = 0; job < 3; job++) {
            x.job();
        }
        for (int[] p : parts) {
            x.part(p[0], p[1], p[2]);
        }
        x.set(0);
        x.set(1);
        x.week(2);
        x.change(0);
        x.allow(20, 9);
        x.move(0);
        x.change(1);
        int[][] works = {{0, 0, 30002, 70}, {1, 0, 31000, -90}, {2, 10, 20001, 50}, {2, 0, 29000, 71}, {2, 1, 9000, -40},
            {2, 11, 8000, 30}, {2, 3, 0, 11}, {2, 0, 28000, -95}};
        for (int[] w : works) {
            x.work(w[0], w[1], w[2], w[3]);
        }
        x.wait(2, 0, 1, 33);
        x.wait(2, 5, 3, 44);
        x.learner(0, 0, 1);
        x.learner(7, 2, 500);
        x.tell(x.pay(0, 2, 0));
        x.tell(x.pay(1, 2, 0));
        x.tell(-5);
        Due.feed(x, "keep 7;sure 5");
        return x;
    }

    private static void see(List<String> seen, String what, int answer) {
        seen.add(what + " " + answer);
    }

    /** All that can be asked, found() first and what takes something away last. */
    private static List<String> seen(BenchTimes x) {
        List<String> seen = new ArrayList<>();
        for (int k = 1; k <= 5; k++) {
            see(seen, "found " + k, x.found(k));
        }
        for (int what = 0; what <= 9; what++) {
            see(seen, "count " + what, x.count(what));
        }
        for (int element = 0; element < 4; element++) {
            see(seen, "as " + element, x.as(element, 0));
            see(seen, "habit " + element, x.habit(element));
            for (int what = 0; what <= 6; what++) {
                see(seen, "of " + element + " " + what, x.of(element, what));
            }
        }
        for (int cycle = 0; cycle < 6; cycle++) {
            see(seen, "normal " + cycle, x.normal(cycle));
        }
        for (int job = 0; job < 3; job++) {
            for (int week = 0; week <= 6; week += 3) {
                see(seen, "rate " + job + " " + week, x.rate(job, week));
                see(seen, "worth " + job + " " + week, x.worth(job, week, 0));
                see(seen, "worth " + job + " " + week, x.worth(job, week, 1));
            }
        }
        for (int what = 0; what < 5; what++) {
            see(seen, "rule " + what, x.rule(what));
        }
        seeWeeks(seen, x);
        takeAway(seen, x);
        return seen;
    }

    private static void seeWeeks(List<String> seen, BenchTimes x) {
        for (int row = 0; row <= 8; row++) {
            see(seen, "earned " + row, x.earned(row));
        }
        int[] workers = {0, 1, 3, 5};
        for (int worker : workers) {
            for (int what = 0; what <= 4; what++) {
                see(seen, "pay " + worker + " " + what, x.pay(worker, 2, what));
            }
            see(seen, "pool " + worker, x.pool(43, 2, worker));
        }
        for (int cause = 0; cause < 4; cause++) {
            see(seen, "cause " + cause, x.cause(cause));
        }
        for (int job = 0; job < 3; job++) {
            see(seen, "efficiency 0 " + job, x.efficiency(0, job));
            see(seen, "efficiency 1 " + job, x.efficiency(1, job));
            see(seen, "order " + job, x.order(job));
            see(seen, "slow 0 " + job, x.slow(0, job));
        }
        see(seen, "looser", x.looser(0, 1));
    }

    private static void takeAway(List<String> seen, BenchTimes x) {
        see(seen, "check", x.check(2));
        for (int job = 0; job < 3; job++) {
            see(seen, "learner 0 " + job, x.learner(0, job, -1));
            see(seen, "learner 7 " + job, x.learner(7, job, -1));
            see(seen, "move " + job, x.move(job));
            see(seen, "rate " + job, x.rate(job, 500));
            see(seen, "worth " + job, x.worth(job, 500, 0));
            see(seen, "worth " + job, x.worth(job, 500, 1));
        }
        see(seen, "week", x.week(2));
        see(seen, "feed", x.feed(';'));
        see(seen, "read", x.read());
        see(seen, "KEEP", x.rule(1));
        see(seen, "SURE", x.rule(4));
    }

    /** The tests below would prove nothing if the world showed nothing. */
    private static void worldIsSeen() {
        List<String> seen = seen(world());
        String[] shown = {"found 1 0", "found 2 0", "found 3 0", "found 4 0", "found 5 0", "count 4 3", "count 8 13",
            "count 9 3", "habit 2 -7", "check 3", "learner 0 0 1", "learner 7 2 500", "read 2", "KEEP 7", "SURE 5",
            "move 1 -1000000003", "move 2 -1000000003", "week 0"};
        for (String row : shown) {
            due.is("the world shows '" + row + "'", 1, seen.contains(row) ? 1 : 0);
        }
        due.is("a RATE is to be MOVED", 0, seen.contains("move 0 -1000000003") ? 1 : 0);
    }

    private static void areTheSame(String what, int finding, List<String> want, List<String> got) {
        for (int i = 0; i < want.size(); i++) {
            boolean counted = finding < LOW && i == LOW - finding - 1;
            if (counted) {
                int before = Integer.parseInt(want.get(i).substring("found k ".length()));
                due.is("found() behind " + what, before + 1, Integer.parseInt(got.get(i).substring("found k ".length())));
            } else {
                boolean same = want.get(i).equals(got.get(i));
                due.is(what + ": '" + want.get(i) + "' is '" + got.get(i) + "', same", 1, same ? 1 : 0);
            }
        }
    }

    private static void refused(String what, int finding, Consumer<BenchTimes> ahead, ToIntFunction<BenchTimes> call) {
        BenchTimes x = world();
        BenchTimes y = world();
        ahead.accept(x);
        ahead.accept(y);
        due.is(what, finding, call.applyAsInt(x));
        areTheSame(what, finding, seen(y), seen(x));
    }

    private static void beyond(String what, ToIntFunction<BenchTimes> call) {
        refused(what, Due.BEYOND, NOTHING, call);
    }

    private static void elementsRefused() {
        due.by("one that answers a finding changes nothing but what found() tells");
        beyond("element: kind", x -> x.element(4));
        beyond("as: element", x -> x.as(4, 0));
        beyond("as: kind", x -> x.as(0, -1));
        refused("as", Due.KIND, NOTHING, x -> x.as(3, 1));
        beyond("allow: base", x -> x.allow(51, 50));
        beyond("allow: more", x -> x.allow(50, 51));
        beyond("film: rater", x -> x.film(4, 100, 150));
        beyond("film: is", x -> x.film(1, 151, 150));
        beyond("film: told", x -> x.film(1, 100, 151));
        beyond("habit", x -> x.habit(-1));
        beyond("cycle: element", x -> x.cycle(4, 0, 100, 100));
        beyond("cycle: rater", x -> x.cycle(0, 4, 100, 100));
        beyond("cycle: pace", x -> x.cycle(0, 0, 151, 100));
        beyond("cycle: time", x -> x.cycle(0, 0, 100, 1000));
        beyond("normal", x -> x.normal(5));
        beyond("of: element", x -> x.of(4, 0));
        beyond("of: what", x -> x.of(0, 7));
        refused("of", Due.NONE, NOTHING, x -> x.of(3, 4));
    }

    private static void jobsRefused() {
        due.by("one that answers a finding changes nothing but what found() tells");
        beyond("part: job", x -> x.part(3, 0, 1));
        beyond("part: element", x -> x.part(2, 4, 1));
        beyond("part: often", x -> x.part(2, 0, 10));
        refused("part: there", Due.STATE, NOTHING, x -> x.part(2, 3, 9));
        refused("part: a RATE", Due.STATE, NOTHING, x -> x.part(1, 0, 1));
        beyond("set", x -> x.set(3));
        refused("set: a RATE", Due.STATE, NOTHING, x -> x.set(0));
        refused("set: no PARTS", Due.STATE, x -> x.job(), x -> x.set(3));
        refused("set: no CYCLES", Due.NONE, NOTHING, x -> x.set(2));
        beyond("change", x -> x.change(4));
        beyond("change", x -> x.change(-1));
        beyond("move", x -> x.move(3));
        refused("move: no RATE", Due.STATE, NOTHING, x -> x.move(2));
        refused("move: no MARK", Due.STATE, NOTHING, x -> x.move(1));
        refused("move: too little", Due.STATE, RefusedTest::wantMore, x -> x.move(0));
        beyond("rate: job", x -> x.rate(3, 0));
        beyond("rate: week", x -> x.rate(0, 501));
        refused("rate", Due.NONE, NOTHING, x -> x.rate(2, 0));
        beyond("worth: job", x -> x.worth(3, 0, 0));
        beyond("worth: week", x -> x.worth(0, -1, 0));
        beyond("worth: part", x -> x.worth(0, 0, 2));
        refused("worth", Due.NONE, NOTHING, x -> x.worth(2, 0, 0));
        beyond("week: too late", x -> x.week(501));
        beyond("week: ahead", x -> x.week(1));
    }

    /** A SHARE of all, and a text on THE TAPE again. */
    private static void wantMore(BenchTimes x) {
        x.read();
        Due.feed(x, "share 100;");
        x.read();
        Due.feed(x, "keep 7;sure 5");
    }

    private static void rulesRefused() {
        due.by("one that answers a finding changes nothing but what found() tells");
        beyond("feed: below", x -> x.feed(-1));
        beyond("feed: above", x -> x.feed(256));
        beyond("rule", x -> x.rule(5));
    }

    private static void workRefused() {
        due.by("one that answers a finding changes nothing but what found() tells");
        beyond("work: week", x -> x.work(3, 0, 1000, 10));
        beyond("work: job", x -> x.work(2, 30, 1000, 10));
        beyond("work: worker", x -> x.work(2, 8, 1000, 10));
        beyond("work: pieces", x -> x.work(2, 0, 1000000, 10));
        beyond("work: minutes", x -> x.work(2, 0, 1000, 3001));
        refused("work", Due.NONE, NOTHING, x -> x.work(2, 20, 1000, 10));
        beyond("wait: week", x -> x.wait(3, 0, 1, 10));
        beyond("wait: worker", x -> x.wait(2, 8, 1, 10));
        beyond("wait: cause", x -> x.wait(2, 0, 4, 10));
        beyond("wait: minutes", x -> x.wait(2, 0, 1, 3001));
    }

    private static void weeksRefused() {
        due.by("one that answers a finding changes nothing but what found() tells");
        beyond("learner: worker", x -> x.learner(8, 0, 2));
        beyond("learner: job", x -> x.learner(0, 3, 2));
        beyond("learner: too early", x -> x.learner(0, 0, -2));
        beyond("learner: too late", x -> x.learner(0, 0, 501));
        beyond("earned", x -> x.earned(8));
        beyond("pay: worker", x -> x.pay(8, 2, 0));
        beyond("pay: week", x -> x.pay(0, 501, 0));
        beyond("pay: what", x -> x.pay(0, 2, 5));
        beyond("cause", x -> x.cause(4));
        beyond("pool: workers", x -> x.pool(256, 2, 0));
        beyond("pool: week", x -> x.pool(255, 501, 0));
        beyond("pool: worker", x -> x.pool(254, 2, 0));
        refused("pool", Due.NONE, NOTHING, x -> x.pool(32, 2, 5));
    }

    private static void looseRefused() {
        due.by("one that answers a finding changes nothing but what found() tells");
        beyond("efficiency: worker", x -> x.efficiency(8, 0));
        beyond("efficiency: job", x -> x.efficiency(0, 3));
        refused("efficiency", Due.NONE, NOTHING, x -> x.efficiency(5, 0));
        beyond("looser: job", x -> x.looser(3, 0));
        beyond("looser: than", x -> x.looser(0, 3));
        beyond("looser: one", x -> x.looser(1, 1));
        beyond("order", x -> x.order(-1));
        refused("order", Due.NONE, NOTHING, x -> x.order(2));
        beyond("slow: worker", x -> x.slow(8, 0));
        beyond("slow: job", x -> x.slow(0, 3));
        refused("slow: no rows", Due.NONE, NOTHING, x -> x.slow(5, 0));
        refused("slow: all WATCHED", Due.NONE, NOTHING, x -> x.slow(1, 0));
        refused("slow: none WATCHED", Due.NONE, NOTHING, x -> x.slow(0, 1));
    }

    private static void toldRefused() {
        due.by("one that answers a finding changes nothing but what found() tells");
        beyond("count", x -> x.count(10));
        beyond("found: below", x -> x.found(0));
        beyond("found: above", x -> x.found(6));
    }

    private static Consumer<BenchTimes> often(int many, ToIntFunction<BenchTimes> call) {
        return x -> {
            for (int i = 0; i < many; i++) {
                call.applyAsInt(x);
            }
        };
    }

    private static int moveOnce(BenchTimes x) {
        x.change(2);
        return x.move(1);
    }

    private static void sixParts(BenchTimes x) {
        for (int i = 0; i < 6; i++) {
            x.element(0);
            x.part(2, 4 + i, 1);
        }
    }

    private static void fullOnes() {
        due.by("one that answers a finding changes nothing but what found() tells");
        refused("element", Due.FULL, often(8, x -> x.element(0)), x -> x.element(1));
        refused("film", Due.FULL, often(18, x -> x.film(1, 100, 103)), x -> x.film(1, 50, 150));
        refused("cycle", Due.FULL, often(55, x -> x.cycle(0, 0, 100, 90)), x -> x.cycle(0, 0, 150, 999));
        refused("job", Due.FULL, often(5, x -> x.job()), x -> x.job());
        refused("part", Due.FULL, RefusedTest::sixParts, x -> x.part(2, 9, 1));
        refused("set", Due.FULL, often(37, RefusedTest::moveOnce).andThen(x -> x.cycle(3, 0, 100, 9)), x -> x.set(2));
        refused("move", Due.FULL, often(37, RefusedTest::moveOnce), x -> x.move(0));
        refused("feed", Due.FULL, often(47, x -> x.feed('0')), x -> x.feed('1'));
        refused("work", Due.FULL, often(92, x -> x.work(2, 1, 7000, 9)), x -> x.work(2, 0, 9000, -10));
        refused("wait", Due.FULL, often(58, x -> x.wait(2, 1, 1, 9)), x -> x.wait(2, 0, 0, 10));
        refused("tell", Due.FULL, often(5, x -> x.tell(0)), x -> x.tell(1));
    }

    private static void faultsChangeTheTapeAlone() {
        due.by("-10 less the FAULT (nothing changes but THE TAPE)");
        String[] faulty = {"x", "share 1;keep 1;wait 1;free 1;sure 1", "share 1;keep 53;", "keep 9;keep 8;", "wait 9;sure"};
        int[] want = {-10, -45, -25, -17, -21};
        for (int i = 0; i < faulty.length; i++) {
            BenchTimes x = world();
            BenchTimes y = world();
            x.read();
            y.read();
            due.reads(x, faulty[i], want[i]);
            areTheSame("read() of '" + faulty[i] + "'", 0, seen(y), seen(x));
        }
    }

    private static void checkTakesTheNumbersAlone() {
        due.by("BEYOND: there is no such WEEK (they are gone, too).");
        int[] weeks = {-1, 501};
        for (int week : weeks) {
            BenchTimes x = world();
            BenchTimes y = world();
            y.check(0);
            due.is("check", Due.BEYOND, x.check(week));
            areTheSame("check(" + week + ")", Due.BEYOND, seen(y), seen(x));
        }
    }

    private static void askingChangesNothing() {
        due.by("Nothing is promised beyond the answers and state changes described above");
        List<ToIntFunction<BenchTimes>> asked = List.of(x -> x.as(2, 1), x -> x.habit(2), x -> x.normal(4),
                x -> x.of(0, 4), x -> x.rate(0, 6), x -> x.worth(0, 6, 1), x -> x.rule(4), x -> x.earned(1),
                x -> x.pay(0, 2, 0), x -> x.cause(1), x -> x.pool(255, 2, 0), x -> x.efficiency(0, 0),
                x -> x.looser(0, 1), x -> x.order(0), x -> x.slow(0, 0), x -> x.count(9), x -> x.found(1),
                x -> x.week(2), x -> x.allow(20, 9), x -> x.learner(0, 0, 1));
        for (int i = 0; i < asked.size(); i++) {
            BenchTimes x = world();
            int answer = asked.get(i).applyAsInt(x);
            due.is("asked " + i + ", no finding", 0, answer < LOW ? 1 : 0);
            areTheSame("asked " + i, 0, seen(world()), seen(x));
            due.is("asked " + i + ", the same again", answer, asked.get(i).applyAsInt(world()));
        }
    }
}
