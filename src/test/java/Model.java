import java.util.ArrayList;
import java.util.Arrays;
import java.util.Collections;
import java.util.Comparator;
import java.util.LinkedHashMap;
import java.util.List;
import java.util.Map;
import java.util.TreeMap;
import java.util.function.ToIntFunction;
import java.util.regex.Matcher;
import java.util.regex.Pattern;
import java.util.stream.Collectors;
import java.util.stream.IntStream;

/**
 * The document written a second time, in the longest way: it keeps what was told and reckons all else from it
 * whenever it is asked. It shares no thought with BenchTimes but the document.
 */
final class Model {
    record Film(int rater, int is, int told) { }

    record Cycle(int element, int rater, int pace, int time) { }

    record Part(int element, int often) { }

    record Rate(int job, int from, List<Integer> worths, long sum, int stamp) { }

    record Change(int element, int stamp) { }

    record Work(int week, int job, int worker, int good, int spoilt, int minutes, boolean watched) { }

    record Waiting(int week, int worker, int cause, int minutes) { }

    record Learner(int worker, int job) { }

    private static final List<String> WORDS = List.of("share", "keep", "wait", "free", "sure");
    private static final int[] MOST = {100, 52, 100, 100, 100};
    private static final List<Pattern> TEXTS = texts();

    private final List<Integer> kinds = new ArrayList<>();
    private final List<Film> films = new ArrayList<>();
    private final List<Cycle> cycles = new ArrayList<>();
    private final List<List<Part>> jobs = new ArrayList<>();
    private final List<Rate> rates = new ArrayList<>();
    private final List<Change> changes = new ArrayList<>();
    private final List<Work> works = new ArrayList<>();
    private final List<Waiting> waitings = new ArrayList<>();
    private final Map<Learner, Integer> learners = new LinkedHashMap<>();
    private final List<Integer> numbers = new ArrayList<>();
    private final StringBuilder tape = new StringBuilder();
    private final Map<String, Integer> rules = new TreeMap<>();
    private final Map<Integer, Integer> found = new TreeMap<>();
    private int base = 10;
    private int more = 5;
    private int week;
    private int stamp;

    Model() {
        int[] first = {10, 4, 50, 3, 80};
        for (int i = 0; i < first.length; i++) {
            rules.put(WORDS.get(i), first[i]);
        }
    }

    int call(String name, int... a) {
        stamp++;
        int answer = answer(name, a);
        if (answer < -1000000000) {
            found.merge(-1000000000 - answer, 1, Integer::sum);
        }
        return answer;
    }

    private int answer(String name, int[] a) {
        switch (name) {
            case "element": return element(a[0]);
            case "as": return as(a[0], a[1]);
            case "allow": return allow(a[0], a[1]);
            case "film": return film(a[0], a[1], a[2]);
            case "habit": return in(a[0], 0, 3) ? habit(a[0]) : Due.BEYOND;
            case "cycle": return cycle(a[0], a[1], a[2], a[3]);
            case "normal": return in(a[0], 0, cycles.size() - 1) ? normal(cycles.get(a[0])) : Due.BEYOND;
            case "of": return of(a[0], a[1]);
            case "job": return job();
            case "part": return part(a[0], a[1], a[2]);
            case "set": return set(a[0]);
            case "change": return change(a[0]);
            case "move": return move(a[0]);
            case "rate": return rate(a[0], a[1]);
            case "worth": return worth(a[0], a[1], a[2]);
            case "week": return week(a[0]);
            case "feed": return feed(a[0]);
            case "read": return read();
            case "rule": return in(a[0], 0, 4) ? rules.get(WORDS.get(a[0])) : Due.BEYOND;
            default: return answerOfWeeks(name, a);
        }
    }

    private int answerOfWeeks(String name, int[] a) {
        switch (name) {
            case "work": return work(a[0], a[1], a[2], a[3]);
            case "wait": return waits(a[0], a[1], a[2], a[3]);
            case "learner": return learner(a[0], a[1], a[2]);
            case "earned": return in(a[0], 0, works.size() - 1) ? earned(works.get(a[0])) : Due.BEYOND;
            case "pay": return pay(a[0], a[1], a[2]);
            case "cause": return cause(a[0]);
            case "pool": return pool(a[0], a[1], a[2]);
            case "efficiency": return efficiency(a[0], a[1]);
            case "looser": return looser(a[0], a[1]);
            case "order": return order(a[0]);
            case "slow": return slow(a[0], a[1]);
            case "tell": return tell(a[0]);
            case "check": return check(a[0]);
            case "count": return count(a[0]);
            case "found": return in(a[0], 1, 5) ? found.getOrDefault(a[0], 0) : Due.BEYOND;
            default: throw new IllegalArgumentException(name);
        }
    }

    private static boolean in(int v, int least, int most) {
        return least <= v && v <= most;
    }

    private boolean isElement(int element) {
        return in(element, 0, kinds.size() - 1);
    }

    private boolean isJob(int job) {
        return in(job, 0, jobs.size() - 1);
    }

    // ---- elements

    private int element(int kind) {
        if (!in(kind, 0, 3)) {
            return Due.BEYOND;
        }
        if (kinds.size() == 12) {
            return Due.FULL;
        }
        kinds.add(kind);
        return kinds.size() - 1;
    }

    private int allowance(int element) {
        return List.of(base, base + more, base + 3 * more, base / 2).get(kinds.get(element));
    }

    private int as(int element, int kind) {
        if (!isElement(element) || !in(kind, 0, 3)) {
            return Due.BEYOND;
        }
        List<List<Integer>> are = List.of(List.of(0), List.of(0, 1), List.of(0, 1, 2), List.of(0, 3));
        return are.get(kinds.get(element)).contains(kind) ? allowance(element) : Due.KIND;
    }

    private int allow(int newBase, int newMore) {
        if (!in(newBase, 0, 50) || !in(newMore, 0, 50)) {
            return Due.BEYOND;
        }
        base = newBase;
        more = newMore;
        return 1;
    }

    private int film(int rater, int is, int told) {
        if (!in(rater, 0, 3) || !in(is, 50, 150) || !in(told, 50, 150)) {
            return Due.BEYOND;
        }
        if (films.size() == 20) {
            return Due.FULL;
        }
        films.add(new Film(rater, is, told));
        return films.size();
    }

    private int habit(int rater) {
        List<Film> its = films.stream().filter(f -> f.rater == rater).collect(Collectors.toList());
        int told = its.stream().mapToInt(f -> f.told).sum();
        int is = its.stream().mapToInt(f -> f.is).sum();
        return its.isEmpty() ? 0 : (told - is) / its.size();
    }

    private int cycle(int element, int rater, int pace, int time) {
        if (!isElement(element) || !in(rater, 0, 3) || !in(pace, 50, 150) || !in(time, 1, 999)) {
            return Due.BEYOND;
        }
        if (cycles.size() == 60) {
            return Due.FULL;
        }
        cycles.add(new Cycle(element, rater, pace, time));
        return cycles.size();
    }

    private int normal(Cycle c) {
        int pace = c.pace - habit(c.rater);
        return c.time * (pace < 1 ? 1 : pace) / 100;
    }

    private List<Integer> normals(int element) {
        return cycles.stream().filter(c -> c.element == element).map(this::normal).sorted().collect(Collectors.toList());
    }

    private List<Integer> kept(int element) {
        List<Integer> all = normals(element);
        int middle = all.get((all.size() - 1) / 2);
        return all.stream().filter(n -> Math.abs(n - middle) <= middle / 4).collect(Collectors.toList());
    }

    private int level(int element) {
        List<Integer> kept = kept(element);
        return kept.stream().mapToInt(n -> n).sum() / kept.size();
    }

    private int standard(int element) {
        return (int) Math.ceil(level(element) * (100 + allowance(element)) / 100.0);
    }

    private int of(int element, int what) {
        if (!isElement(element) || !in(what, 0, 6)) {
            return Due.BEYOND;
        }
        if (what > 1 && normals(element).isEmpty()) {
            return Due.NONE;
        }
        switch (what) {
            case 0: return kinds.get(element);
            case 1: return normals(element).size();
            case 2: return kept(element).size();
            case 3: return level(element);
            case 4: return standard(element);
            case 5: return Collections.min(kept(element));
            default: return Collections.max(kept(element));
        }
    }

    // ---- jobs and rates

    private int job() {
        if (jobs.size() == 8) {
            return Due.FULL;
        }
        jobs.add(new ArrayList<>());
        return jobs.size() - 1;
    }

    private Rate latest(int job) {
        return rates.stream().filter(r -> r.job == job).reduce((a, b) -> b).orElse(null);
    }

    private Rate inForce(int job, int then) {
        return rates.stream().filter(r -> r.job == job && r.from <= then).reduce((a, b) -> b).orElse(null);
    }

    private int part(int job, int element, int often) {
        if (!isJob(job) || !isElement(element) || !in(often, 1, 9)) {
            return Due.BEYOND;
        }
        if (jobs.get(job).stream().anyMatch(p -> p.element == element) || latest(job) != null) {
            return Due.STATE;
        }
        if (jobs.get(job).size() == 6) {
            return Due.FULL;
        }
        jobs.get(job).add(new Part(element, often));
        return jobs.get(job).size();
    }

    private int make(int job, int from, List<Integer> worths) {
        long sum = 0;
        for (int i = 0; i < worths.size(); i++) {
            sum += (long) worths.get(i) * jobs.get(job).get(i).often;
        }
        rates.add(new Rate(job, from, worths, sum, stamp));
        return (int) sum;
    }

    private int set(int job) {
        if (!isJob(job)) {
            return Due.BEYOND;
        }
        List<Part> parts = jobs.get(job);
        if (latest(job) != null || parts.isEmpty()) {
            return Due.STATE;
        }
        if (parts.stream().anyMatch(p -> normals(p.element).isEmpty())) {
            return Due.NONE;
        }
        if (rates.size() == 40) {
            return Due.FULL;
        }
        return make(job, week, parts.stream().map(p -> standard(p.element)).collect(Collectors.toList()));
    }

    private int change(int element) {
        if (!isElement(element)) {
            return Due.BEYOND;
        }
        changes.add(new Change(element, stamp));
        return (int) IntStream.range(0, jobs.size()).filter(job -> latest(job) != null
                && jobs.get(job).stream().anyMatch(p -> p.element == element)).count();
    }

    private boolean isMarked(Rate latest, Part part) {
        return changes.stream().anyMatch(c -> c.element == part.element && c.stamp > latest.stamp);
    }

    private int move(int job) {
        if (!isJob(job)) {
            return Due.BEYOND;
        }
        Rate latest = latest(job);
        if (latest == null) {
            return Due.STATE;
        }
        List<Part> parts = jobs.get(job);
        List<Integer> worths = new ArrayList<>();
        long marked = 0;
        boolean any = false;
        for (int i = 0; i < parts.size(); i++) {
            if (isMarked(latest, parts.get(i))) {
                any = true;
                marked += (long) latest.worths.get(i) * parts.get(i).often;
                worths.add(standard(parts.get(i).element));
            } else {
                worths.add(latest.worths.get(i));
            }
        }
        if (!any || 100 * marked < rules.get("share") * latest.sum) {
            return Due.STATE;
        }
        if (rates.size() == 40) {
            return Due.FULL;
        }
        return make(job, Math.max(latest.from, week + rules.get("keep")), worths);
    }

    private int rate(int job, int then) {
        if (!isJob(job) || !in(then, 0, 500)) {
            return Due.BEYOND;
        }
        return inForce(job, then) == null ? Due.NONE : (int) inForce(job, then).sum;
    }

    private int worth(int job, int then, int i) {
        if (!isJob(job) || !in(then, 0, 500) || !in(i, 0, jobs.get(job).size() - 1)) {
            return Due.BEYOND;
        }
        return inForce(job, then) == null ? Due.NONE : inForce(job, then).worths.get(i);
    }

    private int week(int next) {
        if (!in(next, 0, 500) || next < week) {
            return Due.BEYOND;
        }
        int went = next - week;
        week = next;
        return went;
    }

    // ---- rules

    private int feed(int b) {
        if (!in(b, 0, 255)) {
            return Due.BEYOND;
        }
        if (tape.length() == 60) {
            return Due.FULL;
        }
        tape.append((char) b);
        return tape.length();
    }

    /** A pattern for each row of words that a text may tell. */
    private static List<Pattern> texts() {
        List<Pattern> texts = new ArrayList<>();
        addTexts(texts, "", new ArrayList<>(WORDS));
        return texts;
    }

    private static void addTexts(List<Pattern> texts, String begun, List<String> left) {
        texts.add(Pattern.compile(begun));
        for (String word : left) {
            List<String> others = new ArrayList<>(left);
            others.remove(word);
            addTexts(texts, begun + word + " ([0-9]{1,3});", others);
        }
    }

    private static boolean begins(Pattern text, String with) {
        Matcher m = text.matcher(with);
        return m.matches() || m.hitEnd();
    }

    private static int fault(String text) {
        int shapely = 0;
        List<Pattern> left = TEXTS;
        while (shapely < text.length()) {
            String next = text.substring(0, shapely + 1);
            left = left.stream().filter(p -> begins(p, next)).collect(Collectors.toList());
            if (left.isEmpty()) {
                break;
            }
            shapely++;
        }
        Matcher n = Pattern.compile("([a-z]+) ([0-9]{1,3})").matcher(text.substring(0, shapely));
        while (n.find()) {
            if (Integer.parseInt(n.group(2)) > MOST[WORDS.indexOf(n.group(1))]) {
                return n.end();
            }
        }
        boolean whole = TEXTS.stream().anyMatch(p -> p.matcher(text).matches());
        return whole ? -1 : shapely;
    }

    private int read() {
        String text = tape.toString();
        tape.setLength(0);
        int fault = fault(text);
        if (fault >= 0) {
            return -10 - fault;
        }
        int many = 0;
        for (String clause : text.split(";")) {
            if (!clause.isEmpty()) {
                String[] two = clause.split(" ");
                rules.put(two[0], Integer.parseInt(two[1]));
                many++;
            }
        }
        return many;
    }

    // ---- weeks

    private int work(int then, int on, int pieces, int minutes) {
        boolean right = in(then, 0, week) && on >= 0 && isJob(on / 10) && on % 10 < 8 && in(pieces, 0, 999999)
                && minutes != 0 && in(minutes, -3000, 3000);
        if (!right) {
            return Due.BEYOND;
        }
        if (inForce(on / 10, then) == null) {
            return Due.NONE;
        }
        if (works.size() == 100) {
            return Due.FULL;
        }
        works.add(new Work(then, on / 10, on % 10, pieces / 1000, pieces % 1000, Math.abs(minutes), minutes < 0));
        return works.size() - 1;
    }

    private int waits(int then, int worker, int cause, int minutes) {
        if (!in(then, 0, week) || !in(worker, 0, 7) || !in(cause, 0, 3) || !in(minutes, 1, 3000)) {
            return Due.BEYOND;
        }
        if (waitings.size() == 60) {
            return Due.FULL;
        }
        waitings.add(new Waiting(then, worker, cause, minutes));
        return waitings.size();
    }

    private int learner(int worker, int job, int then) {
        if (!in(worker, 0, 7) || !isJob(job) || !in(then, -1, 500)) {
            return Due.BEYOND;
        }
        Integer before = learners.put(new Learner(worker, job), then);
        return before == null ? -1 : before;
    }

    private int earned(Work w) {
        long paid = w.good + Math.min(w.spoilt, (long) w.good * rules.get("free") / 100);
        long plain = paid * inForce(w.job, w.week).sum / 100;
        int began = learners.getOrDefault(new Learner(w.worker, w.job), -1);
        if (began >= 0 && w.week == began) {
            return (int) (plain + plain / 2);
        }
        if (began >= 0 && w.week > began && w.week <= began + 3) {
            return (int) (plain + plain / 4);
        }
        return (int) plain;
    }

    private List<Work> worksOf(int worker, int then) {
        return works.stream().filter(w -> w.worker == worker && w.week == then).collect(Collectors.toList());
    }

    private static <T> long sum(List<T> rows, ToIntFunction<T> of) {
        long sum = 0;
        for (T row : rows) {
            sum += of.applyAsInt(row);
        }
        return sum;
    }

    private long payAll(int worker, int then) {
        return pays(worker, then)[0];
    }

    private long[] pays(int worker, int then) {
        List<Waiting> waited = waitings.stream().filter(w -> w.worker == worker && w.week == then)
                .collect(Collectors.toList());
        long earned = sum(worksOf(worker, then), this::earned);
        long worked = sum(worksOf(worker, then), Work::minutes);
        long minutes = sum(waited, Waiting::minutes);
        long forWaiting = minutes * rules.get("wait") / 100;
        long sure = (worked + minutes) * rules.get("sure") / 100;
        return new long[] {Math.max(sure, earned + forWaiting), earned, forWaiting, worked, minutes};
    }

    private int pay(int worker, int then, int what) {
        if (!in(worker, 0, 7) || !in(then, 0, 500) || !in(what, 0, 4)) {
            return Due.BEYOND;
        }
        return (int) pays(worker, then)[what];
    }

    private int cause(int cause) {
        return in(cause, 0, 3)
                ? waitings.stream().filter(w -> w.cause == cause).mapToInt(Waiting::minutes).sum() : Due.BEYOND;
    }

    private int pool(int workers, int then, int worker) {
        if (!in(workers, 1, 255) || !in(then, 0, 500) || !in(worker, 0, 7)) {
            return Due.BEYOND;
        }
        List<Integer> pool = IntStream.range(0, 8).filter(w -> workers / (1 << w) % 2 == 1).boxed()
                .collect(Collectors.toList());
        if (!pool.contains(worker)) {
            return Due.BEYOND;
        }
        Map<Integer, Long> minutes = new TreeMap<>();
        pool.forEach(w -> minutes.put(w, sum(worksOf(w, then), Work::minutes)));
        long allMinutes = minutes.values().stream().mapToLong(m -> m).sum();
        if (allMinutes == 0) {
            return Due.NONE;
        }
        long all = pool.stream().mapToLong(w -> payAll(w, then)).sum();
        Map<Integer, Long> gets = new TreeMap<>();
        pool.forEach(w -> gets.put(w, all * minutes.get(w) / allMinutes));
        long left = all - gets.values().stream().mapToLong(g -> g).sum();
        for (int w : pool) {
            if (left > 0 && minutes.get(w) > 0) {
                gets.merge(w, 1L, Long::sum);
                left--;
            }
        }
        return gets.get(worker).intValue();
    }

    // ---- loose and tight, slow

    private int efficiency(int worker, int job) {
        if (!in(worker, 0, 7) || !isJob(job)) {
            return Due.BEYOND;
        }
        List<Work> its = works.stream().filter(w -> w.worker == worker && w.job == job).collect(Collectors.toList());
        return its.isEmpty() ? Due.NONE : (int) (100 * sum(its, this::earned) / sum(its, Work::minutes));
    }

    private boolean isLooser(int job, int than) {
        int n = 0;
        int k = 0;
        for (int worker = 0; worker < 8; worker++) {
            int first = efficiency(worker, job);
            int second = efficiency(worker, than);
            if (first >= 0 && second >= 0 && first != second) {
                n++;
                k += first > second ? 1 : 0;
            }
        }
        int ways = 0;
        for (int chosen = 0; chosen < 1 << n; chosen++) {
            ways += Integer.bitCount(chosen) >= k ? 1 : 0;
        }
        return n > 0 && ways <= Math.pow(2, n) / 20;
    }

    private int looser(int job, int than) {
        if (!isJob(job) || !isJob(than) || job == than) {
            return Due.BEYOND;
        }
        return isLooser(job, than) ? 1 : 0;
    }

    private int order(int i) {
        if (i < 0) {
            return Due.BEYOND;
        }
        List<Integer> with = works.stream().map(Work::job).distinct().sorted().collect(Collectors.toList());
        Map<Integer, Integer> less = new TreeMap<>();
        for (int job : with) {
            int looser = (int) with.stream().filter(other -> other != job && isLooser(job, other)).count();
            int tighter = (int) with.stream().filter(other -> other != job && isLooser(other, job)).count();
            less.put(job, tighter - looser);
        }
        with.sort(Comparator.comparing(less::get));
        return i < with.size() ? with.get(i) : Due.NONE;
    }

    private int slow(int worker, int job) {
        if (!in(worker, 0, 7) || !isJob(job)) {
            return Due.BEYOND;
        }
        List<Work> its = works.stream().filter(w -> w.worker == worker && w.job == job && w.good > 0).limit(14)
                .collect(Collectors.toList());
        int n = its.size();
        int[] pace = its.stream().mapToInt(w -> w.minutes * 100 / w.good).toArray();
        int[] rank = new int[n];
        int watched = 0;
        for (int i = 0; i < n; i++) {
            int own = pace[i];
            int lesser = (int) Arrays.stream(pace).filter(p -> p < own).count();
            int same = (int) Arrays.stream(pace).filter(p -> p == own).count() - 1;
            rank[i] = 2 * lesser + same;
            watched += its.get(i).watched ? 1 << i : 0;
        }
        int m = Integer.bitCount(watched);
        if (m == 0 || m == n) {
            return Due.NONE;
        }
        int all = 0;
        int asGreat = 0;
        for (int chosen = 0; chosen < 1 << n; chosen++) {
            if (Integer.bitCount(chosen) == m) {
                all++;
                asGreat += together(rank, chosen) >= together(rank, watched) ? 1 : 0;
            }
        }
        return asGreat * 20 <= all ? 1 : 0;
    }

    private static int together(int[] rank, int chosen) {
        return IntStream.range(0, rank.length).filter(i -> (chosen >> i & 1) == 1).map(i -> rank[i]).sum();
    }

    // ---- what is told

    private int tell(int v) {
        if (numbers.size() == 8) {
            return Due.FULL;
        }
        numbers.add(v);
        return numbers.size();
    }

    private int check(int then) {
        List<Integer> waiting = new ArrayList<>(numbers);
        numbers.clear();
        if (!in(then, 0, 500)) {
            return Due.BEYOND;
        }
        for (int i = 0; i < waiting.size(); i++) {
            if (waiting.get(i) != payAll(i, then)) {
                return 1 + i;
            }
        }
        return 0;
    }

    private int count(int what) {
        if (!in(what, 0, 9)) {
            return Due.BEYOND;
        }
        return List.of(kinds.size(), cycles.size(), films.size(), jobs.size(), rates.size(), week, works.size(),
                waitings.size(), tape.length(), numbers.size()).get(what);
    }
}
