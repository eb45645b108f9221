import java.lang.reflect.Method;
import java.util.ArrayList;
import java.util.List;
import java.util.Map;
import java.util.Random;
import java.util.TreeMap;

/** Random runs, the same ones each time, of BenchTimes beside Model. */
public final class ModelTest {
    private static final int RUNS = 400;
    private static final int CALLS = 512;
    private static final int[] ODD = {Integer.MIN_VALUE, -3001, -10, -2, -1, 0, 1, 3, 4, 7, 8, 9, 10, 12, 50, 51,
        59, 60, 99, 100, 150, 151, 255, 256, 500, 501, 999, 1000, 3000, 3001, 999999, 1000000, Integer.MAX_VALUE};
    private static final String[] WORDS = {"share", "keep", "wait", "free", "sure", "wai", "shame", "", " "};

    private final Map<String, Method> methods = new TreeMap<>();
    private final Map<String, Integer> answered = new TreeMap<>();
    private final List<String> told = new ArrayList<>();
    private final List<String> toFeed = new ArrayList<>();
    private Random random;
    private int weekNow;
    private boolean looseJobs;
    private int wrong;

    public static void main(String[] args) throws ReflectiveOperationException {
        ModelTest test = new ModelTest();
        for (Method method : BenchTimes.class.getDeclaredMethods()) {
            if (java.lang.reflect.Modifier.isPublic(method.getModifiers())) {
                test.methods.put(method.getName(), method);
            }
        }
        for (int run = 0; run < RUNS && test.wrong < 5; run++) {
            test.run(run);
        }
        test.looksAtWhatWasAnswered();
        System.out.println(test.wrong == 0 ? "as due" : test.wrong + " answers are not as due");
        if (test.wrong != 0) {
            System.exit(1);
        }
    }

    private void run(int seed) throws ReflectiveOperationException {
        random = new Random(seed);
        weekNow = 0;
        told.clear();
        toFeed.clear();
        BenchTimes x = new BenchTimes();
        Model model = new Model();
        List<String> names = new ArrayList<>(methods.keySet());
        // A run of a few workers and jobs goes deeper than one of all of them.
        looseJobs = random.nextInt(3) == 0;
        int workers = looseJobs ? 5 + random.nextInt(4) : 1 + random.nextInt(8);
        int jobs = looseJobs ? 2 + random.nextInt(2) : 1 + random.nextInt(8);
        int oddness = random.nextInt(4) == 0 ? 10 : 60;
        if (random.nextInt(5) > 0 && !makesJobs(x, model, seed, jobs)) {
            return;
        }
        while (told.size() < CALLS) {
            String name = pick(names);
            int[] a = random.nextInt(oddness) == 0 ? oddArguments(name) : arguments(name, workers, jobs, model);
            if (!isAsDue(x, model, seed, name, a)) {
                return;
            }
        }
    }

    private boolean isAsDue(BenchTimes x, Model model, int seed, String name, int[] a)
            throws ReflectiveOperationException {
        Object[] boxed = new Object[a.length];
        StringBuilder text = new StringBuilder(name).append('(');
        for (int i = 0; i < a.length; i++) {
            boxed[i] = a[i];
            text.append(i == 0 ? "" : ", ").append(a[i]);
        }
        int want = model.call(name, a);
        int got;
        try {
            got = (int) methods.get(name).invoke(x, boxed);
        } catch (java.lang.reflect.InvocationTargetException e) {
            told.add(text + ") threw " + e.getCause());
            got = ~want;
        }
        told.add(text + ") " + got);
        if (want > -1000000000 && "week".equals(name)) {
            weekNow += want;
        }
        answered.merge(name + (want < -1000000000 ? " " + want : want < 0 ? " below 0" : want == 0 ? " 0" : " more"),
                1, Integer::sum);
        if (got != want) {
            wrong++;
            System.out.println("run " + seed + ", due is " + want + " in the last row of");
            told.subList(Math.max(0, told.size() - 12), told.size()).forEach(row -> System.out.println("    " + row));
        }
        return got == want;
    }

    /** ELEMENTS with CYCLES, and JOBS of them with RATES, but now and then without. */
    private boolean makesJobs(BenchTimes x, Model model, int seed, int jobs) throws ReflectiveOperationException {
        boolean right = true;
        for (int element = 0; element < 8; element++) {
            right &= isAsDue(x, model, seed, "element", row(less(4)));
            for (int cycles = less(4) + (less(20) == 0 ? 0 : 1); cycles > 0; cycles--) {
                right &= isAsDue(x, model, seed, "cycle", row(element, less(4), 70 + less(60), 40 + less(100)));
            }
        }
        for (int job = 0; job < jobs; job++) {
            right &= isAsDue(x, model, seed, "job", row());
            for (int parts = 1 + less(4); parts > 0; parts--) {
                right &= isAsDue(x, model, seed, "part", row(job, less(8), 1 + less(9)));
            }
            if (less(10) > 0) {
                right &= isAsDue(x, model, seed, "set", row(job));
            }
        }
        return right;
    }

    private String pick(List<String> names) {
        int way = random.nextInt(10);
        boolean justFed = toFeed.isEmpty() && !told.isEmpty() && told.get(told.size() - 1).startsWith("feed");
        if (!toFeed.isEmpty() && way < 8) {
            return "feed";
        }
        if (justFed && way < 8) {
            return "read";
        }
        if (way < 4) {
            return "work";
        }
        String[] often = {"set", "change", "move", "looser", "order", "slow", "pool", "earned", "wait", "learner", "week"};
        return way < 7 ? often[random.nextInt(often.length)] : names.get(random.nextInt(names.size()));
    }

    private int[] oddArguments(String name) {
        int[] a = new int[methods.get(name).getParameterCount()];
        for (int i = 0; i < a.length; i++) {
            a[i] = ODD[random.nextInt(ODD.length)];
        }
        return a;
    }

    private int less(int bound) {
        return random.nextInt(bound);
    }

    private int pastWeek() {
        return less(3) == 0 ? less(weekNow + 1) : Math.max(0, weekNow - less(4));
    }

    private int[] arguments(String name, int workers, int jobs, Model model) {
        int worker = less(workers);
        int job = less(jobs);
        switch (name) {
            case "element": return row(less(4));
            case "as": return row(less(12), less(4));
            case "allow": return row(less(51), less(51));
            case "film": return row(less(4), 50 + less(101), 50 + less(101));
            case "habit": return row(less(4));
            case "cycle": return row(less(6), less(4), 50 + less(101), less(2) == 0 ? 80 + less(40) : 1 + less(999));
            case "normal": return row(less(60));
            case "of": return row(less(8), less(7));
            case "part": return row(job, less(8), 1 + less(9));
            case "set": return row(job);
            case "change": return row(less(8));
            case "move": return row(job);
            case "rate": return row(job, pastWeek() + less(6));
            case "worth": return row(job, pastWeek() + less(6), less(4));
            case "week": return row(Math.min(500, weekNow + less(4)));
            case "feed": return row(nextByte());
            case "rule": return row(less(5));
            case "work": return row(pastWeek(), 10 * job + worker, pieces(job), minutes());
            case "wait": return row(pastWeek(), worker, less(4), 1 + less(100));
            case "learner": return row(worker, job, less(5) == 0 ? -1 : pastWeek());
            case "earned": return row(less(50));
            case "pay": return row(worker, pastWeek(), less(5));
            case "cause": return row(less(4));
            case "pool": return row(1 + less(255), pastWeek(), worker);
            case "efficiency": return row(worker, job);
            case "looser": return row(job, less(jobs));
            case "order": return row(less(4));
            case "slow": return row(worker, job);
            case "tell": return row(less(5) == 0 ? less(100) : model.call("pay", model.call("count", 9) % 8, weekNow, 0));
            case "check": return row(less(3) == 0 ? pastWeek() : weekNow);
            case "count": return row(less(10));
            case "found": return row(1 + less(5));
            default: return row();
        }
    }

    private static int[] row(int... a) {
        return a;
    }

    private int pieces(int job) {
        if (looseJobs) {
            return 1000 * (10 + 40 * job + less(20));
        }
        int good = less(6) == 0 ? less(1000) : less(8) == 0 ? 0 : 8 + less(5);
        return 1000 * good + (less(2) == 0 ? less(1000) : less(5));
    }

    /** WATCHED rows are slower, so that some are SLOW. */
    private int minutes() {
        if (less(10) == 0) {
            return less(2) == 0 ? 1 + less(3000) : -1 - less(3000);
        }
        return less(3) == 0 ? -15 - less(10) : 10 + less(8);
    }

    private int nextByte() {
        if (toFeed.isEmpty()) {
            StringBuilder text = new StringBuilder();
            for (int clauses = less(5); clauses >= 0; clauses--) {
                text.append(WORDS[less(less(4) == 0 ? WORDS.length : 5)]).append(less(30) == 0 ? "  " : " ");
                text.append(less(3) == 0 ? less(1200) : less(53)).append(less(30) == 0 ? "" : ";");
            }
            for (char sign : text.toString().toCharArray()) {
                toFeed.add(String.valueOf(less(200) == 0 ? (char) less(256) : sign));
            }
        }
        return toFeed.remove(0).charAt(0);
    }

    /** Runs that miss what they are made for would prove nothing. */
    private void looksAtWhatWasAnswered() {
        String[] rare = {"looser more", "slow more", "slow 0", "order more", "order 0", "move more", "pool more",
            "efficiency more", "read more", "read below 0", "check 0", "check more", "habit below 0", "work -1000000004",
            "move -1000000003", "work -1000000002", "learner more", "earned more", "as -1000000005"};
        for (String answer : rare) {
            if (answered.getOrDefault(answer, 0) < 20) {
                wrong++;
                System.out.println("too few runs answered: " + answer + ", " + answered.getOrDefault(answer, 0));
            }
        }
    }
}
