import java.util.List;
import java.util.function.Consumer;
import java.util.function.IntSupplier;

/** Promises 32 to 35, and what the others say of findings. */
public final class ToldTest {
    private static final Due due = new Due();

    public static void main(String[] args) {
        tells();
        checks();
        checksWrong();
        counts();
        founds();
        everyFinding();
        due.end();
    }

    private static void tells() {
        BenchTimes x = new BenchTimes();
        for (int i = 1; i <= 8; i++) {
            due.is("tell", i, x.tell(i % 2 == 0 ? Integer.MIN_VALUE : Integer.MAX_VALUE));
        }
        due.is("tell, full", Due.FULL, x.tell(0));
        due.is("count", 8, x.count(9));
        due.is("check", 1, x.check(0));
        due.is("none wait", 0, x.count(9));
        due.is("tell", 1, x.tell(-1));
    }

    private static void checks() {
        BenchTimes x = Due.withJobs(1);
        x.week(2);
        for (int worker = 0; worker < 8; worker++) {
            x.work(1, worker, 10000 * (worker + 1), 1);
        }
        due.is("none wait", 0, x.check(1));
        for (int i = 0; i < 8; i++) {
            for (int worker = 0; worker < 8; worker++) {
                x.tell(11 * (worker + 1) + (worker >= i ? 1 : 0));
            }
            due.is("check", i + 1, x.check(1));
        }
        for (int worker = 0; worker < 8; worker++) {
            x.tell(11 * (worker + 1));
        }
        due.is("all are", 0, x.check(1));
        x.tell(11);
        x.tell(22);
        due.is("two are", 0, x.check(1));
        x.tell(0);
        due.is("another week", 0, x.check(2));
        x.tell(11);
        due.is("another week", 1, x.check(2));
        x.tell(0);
        due.is("a week that comes", 0, x.check(500));
        x.wait(2, 0, 0, 10);
        x.tell(8);
        due.is("all of PAY", 0, x.check(2));
    }

    private static void checksWrong() {
        BenchTimes x = new BenchTimes();
        x.tell(5);
        due.is("check(-1)", Due.BEYOND, x.check(-1));
        due.is("they are gone", 0, x.count(9));
        x.tell(5);
        due.is("check(501)", Due.BEYOND, x.check(501));
        due.is("they are gone", 0, x.count(9));
        due.is("check", 0, x.check(0));
        due.is("found", 2, x.found(1));
    }

    private static void counts() {
        BenchTimes x = Due.withJobs(3);
        x.element(0);
        x.cycle(0, 0, 100, 100);
        x.cycle(0, 0, 100, 100);
        for (int i = 0; i < 6; i++) {
            x.film(0, 100, 100);
        }
        x.job();
        x.job();
        x.job();
        x.job();
        x.change(0);
        x.move(0);
        x.change(0);
        x.move(0);
        x.week(8);
        for (int i = 0; i < 9; i++) {
            x.work(0, 0, 0, 1);
        }
        for (int i = 0; i < 10; i++) {
            x.wait(0, 0, 0, 1);
        }
        for (int i = 0; i < 11; i++) {
            x.feed(0);
        }
        x.tell(0);
        int[] want = {4, 5, 6, 7, 5, 8, 9, 10, 11, 1};
        for (int what = 0; what < want.length; what++) {
            due.is("count(" + what + ")", want[what], x.count(what));
        }
        due.is("count(-1)", Due.BEYOND, x.count(-1));
        due.is("count(10)", Due.BEYOND, x.count(10));
    }

    /** An object that is full, with a JOB 6 whose ELEMENT has no CYCLES and a JOB 7 that has no RATE. */
    private static BenchTimes full() {
        BenchTimes x = Due.withJobs(6);
        times(6, () -> x.element(0));
        times(2, () -> x.job());
        x.part(6, 11, 1);
        for (int element = 0; element < 6; element++) {
            x.part(7, element, 1);
        }
        for (int rates = 6; rates < 40; rates++) {
            x.change(0);
            x.move(0);
        }
        x.change(0);
        times(54, () -> x.cycle(0, 0, 100, 100));
        times(20, () -> x.film(0, 100, 100));
        times(100, () -> x.work(0, 0, 1000, 10));
        times(60, () -> x.wait(0, 1, 0, 10));
        times(60, () -> x.feed(' '));
        times(8, () -> x.tell(0));
        return x;
    }

    private static void times(int many, IntSupplier call) {
        for (int i = 0; i < many; i++) {
            call.getAsInt();
        }
    }

    private static void counted(BenchTimes x, String name, int finding, IntSupplier call) {
        int k = -1000000000 - finding;
        int before = x.found(k);
        due.is(name, finding, call.getAsInt());
        due.is("found(" + k + ") behind " + name, before + 1, x.found(k));
    }

    /** Each finding of each call is counted, and changes nothing else; no object is used for more than 512 calls. */
    private static void everyFinding() {
        List<Consumer<BenchTimes>> groups = List.of(ToldTest::fullOnes, ToldTest::beyondOnes,
                ToldTest::beyondOnesOfWeeks, ToldTest::otherOnes);
        for (Consumer<BenchTimes> group : groups) {
            BenchTimes x = full();
            group.accept(x);
            isStillFull(x);
        }
    }

    private static void fullOnes(BenchTimes x) {
        counted(x, "element", Due.FULL, () -> x.element(0));
        counted(x, "cycle", Due.FULL, () -> x.cycle(0, 0, 100, 100));
        counted(x, "job", Due.FULL, () -> x.job());
        counted(x, "part", Due.FULL, () -> x.part(7, 6, 1));
        counted(x, "set", Due.FULL, () -> x.set(7));
        counted(x, "move", Due.FULL, () -> x.move(0));
        counted(x, "feed", Due.FULL, () -> x.feed(0));
        counted(x, "work", Due.FULL, () -> x.work(0, 0, 1000, 10));
        counted(x, "wait", Due.FULL, () -> x.wait(0, 0, 0, 10));
        counted(x, "tell", Due.FULL, () -> x.tell(0));
        counted(x, "film", Due.FULL, () -> x.film(0, 100, 100));
    }

    private static void beyondOnes(BenchTimes x) {
        counted(x, "element", Due.BEYOND, () -> x.element(4));
        counted(x, "as", Due.BEYOND, () -> x.as(12, 0));
        counted(x, "allow", Due.BEYOND, () -> x.allow(51, 0));
        counted(x, "film", Due.BEYOND, () -> x.film(4, 100, 100));
        counted(x, "habit", Due.BEYOND, () -> x.habit(4));
        counted(x, "cycle", Due.BEYOND, () -> x.cycle(0, 0, 100, 0));
        counted(x, "normal", Due.BEYOND, () -> x.normal(60));
        counted(x, "of", Due.BEYOND, () -> x.of(0, 7));
        counted(x, "part", Due.BEYOND, () -> x.part(0, 0, 0));
        counted(x, "set", Due.BEYOND, () -> x.set(8));
        counted(x, "change", Due.BEYOND, () -> x.change(12));
        counted(x, "move", Due.BEYOND, () -> x.move(8));
        counted(x, "rate", Due.BEYOND, () -> x.rate(8, 0));
        counted(x, "worth", Due.BEYOND, () -> x.worth(0, 0, 1));
        counted(x, "week", Due.BEYOND, () -> x.week(501));
        counted(x, "feed", Due.BEYOND, () -> x.feed(256));
        counted(x, "rule", Due.BEYOND, () -> x.rule(5));
    }

    private static void beyondOnesOfWeeks(BenchTimes x) {
        counted(x, "work", Due.BEYOND, () -> x.work(1, 0, 0, 1));
        counted(x, "work", Due.BEYOND, () -> x.work(0, 0, 0, 0));
        counted(x, "wait", Due.BEYOND, () -> x.wait(0, 0, 0, 0));
        counted(x, "learner", Due.BEYOND, () -> x.learner(0, 0, 501));
        counted(x, "earned", Due.BEYOND, () -> x.earned(100));
        counted(x, "pay", Due.BEYOND, () -> x.pay(0, 0, 5));
        counted(x, "cause", Due.BEYOND, () -> x.cause(4));
        counted(x, "pool", Due.BEYOND, () -> x.pool(0, 0, 0));
        counted(x, "efficiency", Due.BEYOND, () -> x.efficiency(8, 0));
        counted(x, "looser", Due.BEYOND, () -> x.looser(0, 0));
        counted(x, "order", Due.BEYOND, () -> x.order(-1));
        counted(x, "slow", Due.BEYOND, () -> x.slow(8, 0));
        counted(x, "count", Due.BEYOND, () -> x.count(10));
        counted(x, "found", Due.BEYOND, () -> x.found(6));
    }

    private static void otherOnes(BenchTimes x) {
        counted(x, "as", Due.KIND, () -> x.as(0, 3));
        counted(x, "part", Due.STATE, () -> x.part(0, 0, 1));
        counted(x, "set", Due.STATE, () -> x.set(0));
        counted(x, "move", Due.STATE, () -> x.move(1));
        counted(x, "of", Due.NONE, () -> x.of(11, 2));
        counted(x, "set", Due.NONE, () -> x.set(6));
        counted(x, "rate", Due.NONE, () -> x.rate(6, 0));
        counted(x, "worth", Due.NONE, () -> x.worth(6, 0, 0));
        counted(x, "work", Due.NONE, () -> x.work(0, 60, 0, 1));
        counted(x, "pool", Due.NONE, () -> x.pool(2, 0, 1));
        counted(x, "efficiency", Due.NONE, () -> x.efficiency(1, 0));
        counted(x, "order", Due.NONE, () -> x.order(1));
        counted(x, "slow", Due.NONE, () -> x.slow(0, 0));
    }

    private static void isStillFull(BenchTimes x) {
        int[] counts = {12, 60, 20, 8, 40, 0, 100, 60, 60, 8};
        for (int what = 0; what < counts.length; what++) {
            due.is("count(" + what + ")", counts[what], x.count(what));
        }
        int[] rules = {10, 4, 50, 3, 80};
        for (int what = 0; what < rules.length; what++) {
            due.is("rule(" + what + ")", rules[what], x.rule(what));
        }
        due.is("habit", 0, x.habit(0));
        due.is("allowance", 10, x.as(0, 0));
        due.is("learner", -1, x.learner(0, 0, 0));
        due.is("rate", 110, x.rate(0, 500));
        due.is("waited", 600, x.cause(0));
        due.is("worked", 1000, x.pay(0, 0, 3));
        due.is("the mark is there still", Due.FULL, x.move(0));
        due.is("the tape", -10, x.read());
    }

    private static void founds() {
        BenchTimes x = new BenchTimes();
        due.is("found(0)", Due.BEYOND, x.found(0));
        due.is("found(6)", Due.BEYOND, x.found(6));
        due.is("found(-1)", Due.BEYOND, x.found(-1));
        due.is("they are counted, too", 3, x.found(1));
        due.is("found doesn't count itself", 3, x.found(1));
        x.element(0);
        x.as(0, 1);
        x.of(0, 2);
        x.of(0, 3);
        x.job();
        for (int i = 0; i < 3; i++) {
            x.set(0);
        }
        for (int i = 0; i < 12; i++) {
            x.tell(0);
        }
        due.is("BEYOND", 3, x.found(1));
        due.is("NONE", 2, x.found(2));
        due.is("STATE", 3, x.found(3));
        due.is("FULL", 4, x.found(4));
        due.is("KIND", 1, x.found(5));
        x.order(-1);
        x.check(-1);
        x.count(-1);
        x.rule(-1);
        due.is("of every call", 7, x.found(1));
        due.is("of another object", 0, new BenchTimes().found(1));
    }
}
