/** Every sentence of promises 1 to 9, and of the terms that they go by, that names an edge. */
public final class EdgesElementsTest {
    private static final Due due = new Due();

    public static void main(String[] args) {
        nothingAtFirst();
        kindsOfElements();
        elementsAtMost();
        fullIsAskedBehindBeyond();
        noSuchElementOrKind();
        notOfThatKind();
        baseAndMore();
        baseAtFirst();
        moreAtFirst();
        halfOfBase();
        threeTimesMore();
        ratersOfFilms();
        truePaces();
        toldPaces();
        filmsAtMost();
        habitsWithoutFilms();
        habitsBelowZero();
        habitsAreCut();
        cyclesOfElements();
        ratersOfCycles();
        pacesOfCycles();
        timesOfCycles();
        cyclesAtMost();
        normalsOfCycles();
        normalsAreCut();
        paceAtLeastOne();
        habitAsItIsNow();
        keptNearTheMiddle();
        quarterIsCut();
        placeOfTheMiddle();
        levelIsCut();
        oneIfThereIsARest();
        ofWhat();
        noneWithoutCycles();
        leastAndGreatestKept();
        due.end();
    }

    private static BenchTimes withElements(int... kinds) {
        BenchTimes x = new BenchTimes();
        for (int kind : kinds) {
            x.element(kind);
        }
        return x;
    }

    /** An ELEMENT 0 with CYCLES at pace 100, so that these are their NORMALS. */
    private static BenchTimes timed(int... times) {
        BenchTimes x = withElements(0);
        for (int time : times) {
            x.cycle(0, 0, 100, time);
        }
        return x;
    }

    private static void nothingAtFirst() {
        due.by("No ELEMENTS, no JOBS; WEEK 0.");
        due.is("ELEMENTS", 0, new BenchTimes().count(0));
        due.is("JOBS", 0, new BenchTimes().count(3));
        due.is("the WEEK", 0, new BenchTimes().count(5));
        due.is("no ELEMENT 0", Due.BEYOND, new BenchTimes().of(0, 0));
        due.is("no ELEMENT 0", Due.BEYOND, new BenchTimes().change(0));
        due.is("no JOB 0", Due.BEYOND, new BenchTimes().move(0));
        due.is("no JOB 0", Due.BEYOND, new BenchTimes().efficiency(0, 0));
        due.is("no WEEK behind it", Due.BEYOND, new BenchTimes().wait(1, 0, 0, 1));
        due.is("WEEK 0 is there", 1, new BenchTimes().wait(0, 0, 0, 1));
        due.is("the first ELEMENT", 0, new BenchTimes().element(0));
        due.is("the first JOB", 0, new BenchTimes().job());
    }

    private static void kindsOfElements() {
        due.by("An ELEMENT: its number. BEYOND. FULL.");
        due.range("kind", 0, 3, v -> new BenchTimes().element(v));
    }

    private static void elementsAtMost() {
        due.by("ELEMENTS 0, 1, .. (at most 12)");
        BenchTimes x = new BenchTimes();
        for (int i = 0; i < 12; i++) {
            due.is("element", i, x.element(2));
        }
        due.is("the thirteenth", Due.FULL, x.element(2));
        due.is("once more", Due.FULL, x.element(3));
        due.is("they stay twelve", 12, x.count(0));
        due.is("the twelfth stays what it was", 2, x.of(11, 0));
        due.is("there is no thirteenth", Due.BEYOND, x.of(12, 0));
    }

    private static void fullIsAskedBehindBeyond() {
        due.by("Each act tells its findings in the order in which they are asked");
        BenchTimes x = withElements(0, 0, 0, 0, 0, 0, 0, 0, 0, 0, 0, 0);
        due.is("no kind, and full", Due.BEYOND, x.element(4));
        due.is("no kind, and full", Due.BEYOND, x.element(-1));
        due.is("full", Due.FULL, x.element(3));
    }

    private static void noSuchElementOrKind() {
        due.by("BEYOND: there is no such one, or kind.");
        due.range("element of one", 0, 0, v -> withElements(0).as(v, 0));
        due.range("element of five", 0, 4, v -> withElements(0, 1, 2, 3, 0).as(v, 0));
        due.range("element of twelve", 0, 11, v -> withElements(0, 1, 2, 3, 0, 1, 2, 3, 0, 1, 2, 3).as(v, 0));
        due.range("kind", 0, 3, v -> withElements(0).as(0, v));
        due.is("no such one, nor kind", Due.BEYOND, new BenchTimes().as(0, 4));
    }

    private static void notOfThatKind() {
        due.by("KIND: it isn't of that kind, nor of one under it.");
        BenchTimes x = withElements(0, 1, 2, 3);
        boolean[][] is = {{true, false, false, false}, {true, true, false, false}, {true, true, true, false},
            {true, false, false, true}};
        for (int element = 0; element < 4; element++) {
            for (int kind = 0; kind < 4; kind++) {
                int got = x.as(element, kind);
                due.is(element + " as " + kind, is[element][kind] ? x.as(element, element) : Due.KIND, got);
            }
        }
        due.is("KIND was told", 8, x.found(5));
    }

    private static void baseAndMore() {
        due.by("BASE and MORE: 1. BEYOND.");
        due.range("base", 0, 50, v -> new BenchTimes().allow(v, 0));
        due.range("more", 0, 50, v -> new BenchTimes().allow(0, v));
        due.is("the least", 1, new BenchTimes().allow(0, 0));
        due.is("the most", 1, new BenchTimes().allow(50, 50));
        BenchTimes x = withElements(2);
        due.is("more is too great", Due.BEYOND, x.allow(0, 51));
        due.is("base is as it was", 25, x.as(0, 0));
    }

    private static void baseAtFirst() {
        due.by("of an ELEMENT BASE (0 .. 50; 10 at first)");
        due.is("at first", 10, withElements(0).as(0, 0));
        BenchTimes x = withElements(0);
        x.allow(50, 0);
        due.is("the most", 50, x.as(0, 0));
        x.allow(0, 50);
        due.is("the least", 0, x.as(0, 0));
    }

    private static void moreAtFirst() {
        due.by("of a HANDLING BASE and MORE (0 .. 50; 5 at first)");
        due.is("at first", 15, withElements(1).as(0, 1));
        BenchTimes x = withElements(1);
        x.allow(50, 50);
        due.is("the most", 100, x.as(0, 1));
        x.allow(0, 0);
        due.is("the least", 0, x.as(0, 1));
    }

    private static void halfOfBase() {
        due.by("of a MACHINE half of BASE");
        int[][] halves = {{0, 0}, {1, 0}, {2, 1}, {49, 24}, {50, 25}};
        for (int[] half : halves) {
            BenchTimes x = withElements(3);
            x.allow(half[0], 50);
            due.is("half of " + half[0], half[1], x.as(0, 3));
        }
    }

    private static void threeTimesMore() {
        due.by("of a STRAIN BASE and three times MORE");
        BenchTimes x = withElements(2);
        x.allow(50, 50);
        due.is("the most", 200, x.as(0, 2));
        x.allow(0, 1);
        due.is("three times 1", 3, x.as(0, 2));
        x.allow(0, 0);
        due.is("the least", 0, x.as(0, 2));
    }

    private static void ratersOfFilms() {
        due.by("RATERS are 0 .. 3.");
        due.range("rater of a film", 0, 3, v -> new BenchTimes().film(v, 100, 100));
        due.range("rater of a habit", 0, 3, v -> new BenchTimes().habit(v));
    }

    private static void truePaces() {
        due.by("whose pace is a true one (50 .. 150)");
        due.range("is", 50, 150, v -> new BenchTimes().film(0, v, 100));
    }

    private static void toldPaces() {
        due.by("another pace (50 .. 150)");
        due.range("told", 50, 150, v -> new BenchTimes().film(0, 100, v));
        due.is("the same pace", 1, new BenchTimes().film(0, 100, 100));
    }

    private static void filmsAtMost() {
        due.by("FILMS, at most 20");
        BenchTimes x = new BenchTimes();
        for (int i = 1; i <= 20; i++) {
            due.is("film of one rater", i, x.film(3, 50, 150));
        }
        due.is("the next one", Due.FULL, x.film(3, 150, 50));
        due.is("of another rater", Due.FULL, x.film(0, 150, 50));
        due.is("BEYOND is asked first", Due.BEYOND, x.film(0, 150, 49));
        due.is("they stay twenty", 20, x.count(2));
        due.is("its habit stays", 100, x.habit(3));
        due.is("the other's, too", 0, x.habit(0));
    }

    private static void habitsWithoutFilms() {
        due.by("by how many they are; 0 without.");
        BenchTimes x = new BenchTimes();
        x.film(1, 50, 150);
        due.is("without", 0, x.habit(0));
        due.is("with one", 100, x.habit(1));
        due.is("without", 0, x.habit(2));
        due.is("without", 0, x.habit(3));
    }

    private static void habitsBelowZero() {
        due.by("what it told more than the true ones (less: below 0)");
        BenchTimes x = new BenchTimes();
        x.film(0, 150, 50);
        due.is("the least", -100, x.habit(0));
        x.film(0, 50, 150);
        due.is("together 0", 0, x.habit(0));
        x.film(1, 101, 100);
        due.is("1 less", -1, x.habit(1));
    }

    private static void habitsAreCut() {
        due.by("Quotients are cut.");
        int[][] twos = {{1, 0}, {2, 1}, {3, 1}, {-1, 0}, {-2, -1}, {-3, -1}};
        for (int[] two : twos) {
            BenchTimes x = new BenchTimes();
            x.film(2, 100, 100 + two[0]);
            x.film(2, 100, 100);
            due.is(two[0] + " by 2", two[1], x.habit(2));
        }
    }

    private static void cyclesOfElements() {
        due.by("A CYCLE: how many there are. BEYOND. FULL.");
        due.is("without an ELEMENT", Due.BEYOND, new BenchTimes().cycle(0, 0, 100, 100));
        due.range("element", 0, 2, v -> withElements(0, 3, 1).cycle(v, 0, 100, 100));
    }

    private static void ratersOfCycles() {
        due.by("RATERS are 0 .. 3.");
        due.range("rater", 0, 3, v -> withElements(0).cycle(0, v, 100, 100));
    }

    private static void pacesOfCycles() {
        due.by("a pace (50 .. 150)");
        due.range("pace", 50, 150, v -> withElements(0).cycle(0, 0, v, 100));
    }

    private static void timesOfCycles() {
        due.by("a TIME (1 .. 999)");
        due.range("time", 1, 999, v -> withElements(0).cycle(0, 0, 100, v));
    }

    private static void cyclesAtMost() {
        due.by("CYCLES, at most 60");
        BenchTimes x = withElements(0, 1);
        for (int i = 1; i <= 60; i++) {
            due.is("cycle of one element", i, x.cycle(0, 0, 100, 100));
        }
        due.is("the next one", Due.FULL, x.cycle(0, 0, 100, 999));
        due.is("of another element", Due.FULL, x.cycle(1, 0, 100, 100));
        due.is("BEYOND is asked first", Due.BEYOND, x.cycle(2, 0, 100, 100));
        due.is("they stay sixty", 60, x.count(1));
        due.is("of the one", 60, x.of(0, 1));
        due.is("all are KEPT", 60, x.of(0, 2));
        due.is("of the other", 0, x.of(1, 1));
    }

    private static void normalsOfCycles() {
        due.by("NORMAL of a CYCLE. BEYOND.");
        due.is("there is none", Due.BEYOND, new BenchTimes().normal(0));
        due.range("cycle of one", 0, 0, v -> timed(100).normal(v));
        due.range("cycle of three", 0, 2, v -> timed(100, 200, 300).normal(v));
        int[] sixty = new int[60];
        java.util.Arrays.fill(sixty, 7);
        due.range("cycle of sixty", 0, 59, v -> timed(sixty).normal(v));
    }

    private static void normalsAreCut() {
        due.by("Quotients are cut.");
        int[][] cut = {{50, 1, 0}, {99, 1, 0}, {100, 1, 1}, {150, 1, 1}, {101, 99, 99}, {150, 999, 1498}};
        for (int[] row : cut) {
            BenchTimes x = withElements(0);
            x.cycle(0, 0, row[0], row[1]);
            due.is(row[1] + " times " + row[0], row[2], x.normal(0));
        }
    }

    private static void paceAtLeastOne() {
        due.by("its pace less the HABIT, as it is now; 1 at least");
        int[][] habits = {{48, 19, 1}, {49, 9, 0}, {50, 9, 0}, {51, 9, 0}, {100, 9, 0}};
        for (int[] habit : habits) {
            BenchTimes x = withElements(0);
            x.cycle(0, 0, 50, 999);
            x.cycle(0, 0, 50, 99);
            x.film(0, 50, 50 + habit[0]);
            due.is("999 times 50 less " + habit[0], habit[1], x.normal(0));
            due.is("99 times 50 less " + habit[0], habit[2], x.normal(1));
        }
    }

    private static void habitAsItIsNow() {
        due.by("its pace less the HABIT, as it is now; 1 at least");
        BenchTimes x = withElements(0);
        x.cycle(0, 1, 100, 100);
        due.is("without films", 100, x.normal(0));
        x.film(1, 100, 110);
        due.is("told more", 90, x.normal(0));
        x.film(1, 100, 70);
        due.is("told less, together", 110, x.normal(0));
        x.film(0, 100, 150);
        due.is("of another rater", 110, x.normal(0));
        BenchTimes y = withElements(0);
        y.cycle(0, 0, 150, 999);
        y.film(0, 150, 50);
        due.is("the greatest", 2497, y.normal(0));
    }

    private static void keptNearTheMiddle() {
        due.by("those are KEPT whose NORMAL is no more than a quarter (cut) of their MIDDLE away from it");
        due.is("75 and 125 of 100", 3, timed(75, 100, 125).of(0, 2));
        due.is("74 is too far", 2, timed(74, 100, 125).of(0, 2));
        due.is("126 is too far", 2, timed(75, 100, 126).of(0, 2));
        due.is("MIDDLE alone", 1, timed(74, 100, 126).of(0, 2));
        due.is("the same ones", 3, timed(100, 100, 100).of(0, 2));
        due.is("one alone", 1, timed(1).of(0, 2));
    }

    private static void quarterIsCut() {
        due.by("no more than a quarter (cut) of their MIDDLE away from it");
        due.is("a quarter of 3 is 0", 1, timed(2, 3, 4).of(0, 2));
        due.is("a quarter of 4 is 1", 3, timed(3, 4, 5).of(0, 2));
        due.is("a quarter of 7 is 1", 3, timed(6, 7, 8).of(0, 2));
        due.is("and not 2", 1, timed(5, 7, 9).of(0, 2));
        due.is("a quarter of 8 is 2", 3, timed(6, 8, 10).of(0, 2));
        BenchTimes x = withElements(0);
        x.cycle(0, 0, 50, 1);
        x.cycle(0, 0, 50, 1);
        x.cycle(0, 0, 100, 1);
        due.is("a quarter of 0 is 0", 2, x.of(0, 2));
        due.is("LEVEL of 0 and 0", 0, x.of(0, 3));
    }

    private static void placeOfTheMiddle() {
        due.by("the one at place (how many, less 1) by 2, from 0 on");
        due.is("place 0 of 1", 300, timed(300).of(0, 3));
        due.is("place 0 of 2", 100, timed(300, 100).of(0, 3));
        due.is("place 1 of 3", 200, timed(300, 100, 200).of(0, 3));
        due.is("place 1 of 4", 200, timed(400, 100, 300, 200).of(0, 3));
        due.is("place 2 of 5", 300, timed(500, 100, 400, 200, 300).of(0, 3));
        int[] sixty = new int[60];
        for (int i = 0; i < 60; i++) {
            sixty[59 - i] = i < 29 ? 1 : i == 29 ? 10 : 999;
        }
        due.is("place 29 of 60", 10, timed(sixty).of(0, 3));
        BenchTimes x = timed(300);
        x.element(0);
        x.cycle(1, 0, 100, 100);
        x.cycle(1, 0, 100, 100);
        due.is("of its own CYCLES", 300, x.of(0, 3));
    }

    private static void levelIsCut() {
        due.by("LEVEL: KEPT NORMALS together, by how many.");
        due.is("21 by 2", 10, timed(10, 11).of(0, 3));
        due.is("31 by 3", 10, timed(10, 10, 11).of(0, 3));
        due.is("32 by 3", 10, timed(10, 11, 11).of(0, 3));
        due.is("33 by 3", 11, timed(10, 11, 12).of(0, 3));
        due.is("KEPT ones alone", 100, timed(1, 100, 999).of(0, 3));
    }

    private static void oneIfThereIsARest() {
        due.by("LEVEL times (100 and ALLOWANCE), by 100, and 1 if there is a rest");
        due.is("1100 have none", 11, timed(10).of(0, 4));
        due.is("1210 have one", 13, timed(11).of(0, 4));
        due.is("2090 have one", 21, timed(19).of(0, 4));
        due.is("2200 have none", 22, timed(20).of(0, 4));
        int[][] rests = {{99, 1, 100}, {100, 1, 101}, {101, 1, 103}, {1, 0, 1}, {1, 1, 2}, {1, 50, 2}, {2, 50, 3}};
        for (int[] row : rests) {
            BenchTimes x = timed(row[0]);
            x.allow(row[1], 0);
            due.is(row[0] + " and " + row[1] + " hundredths", row[2], x.of(0, 4));
        }
        BenchTimes x = withElements(0);
        x.cycle(0, 0, 50, 1);
        x.allow(50, 50);
        due.is("0 has none", 0, x.of(0, 4));
    }

    private static void ofWhat() {
        due.by("BEYOND: there is no such one, or another what.");
        due.is("without an ELEMENT", Due.BEYOND, new BenchTimes().of(0, 1));
        due.range("element", 0, 0, v -> timed(100).of(v, 4));
        due.range("what", 0, 6, v -> timed(100).of(0, v));
        due.range("what without CYCLES", 0, 6, v -> withElements(0).of(0, v));
    }

    private static void noneWithoutCycles() {
        due.by("NONE (2 to 6): it has no CYCLES.");
        BenchTimes x = timed(100);
        x.element(3);
        due.is("0 KIND", 3, x.of(1, 0));
        due.is("1 CYCLES", 0, x.of(1, 1));
        for (int what = 2; what <= 6; what++) {
            due.is("what " + what, Due.NONE, x.of(1, what));
        }
        due.is("another what is asked first", Due.BEYOND, x.of(1, 7));
        x.cycle(1, 0, 50, 1);
        for (int what = 2; what <= 6; what++) {
            due.is("with a CYCLE, what " + what, what == 2 ? 1 : 0, x.of(1, what));
        }
    }

    private static void leastAndGreatestKept() {
        due.by("5 the least, 6 the greatest NORMAL that is KEPT");
        BenchTimes x = timed(126, 125, 75, 100, 74);
        due.is("the least", 75, x.of(0, 5));
        due.is("the greatest", 125, x.of(0, 6));
        due.is("one alone is the least", 999, timed(999).of(0, 5));
        due.is("and the greatest", 999, timed(999).of(0, 6));
    }
}
