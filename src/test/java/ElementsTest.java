/** Promises 1 to 9. */
public final class ElementsTest {
    private static final Due due = new Due();

    public static void main(String[] args) {
        newObject();
        elementsAndKinds();
        elementsAreAtMostTwelve();
        allowances();
        films();
        filmsAreAtMostTwenty();
        cyclesWrong();
        cyclesAreAtMostSixty();
        normals();
        keptAndLevel();
        middleOfAnEvenRow();
        standards();
        ofWrong();
        due.end();
    }

    private static void newObject() {
        BenchTimes x = new BenchTimes();
        for (int what = 0; what <= 9; what++) {
            due.is("new count(" + what + ")", 0, x.count(what));
        }
        for (int k = 1; k <= 5; k++) {
            due.is("new found(" + k + ")", 0, x.found(k));
        }
        int[] rules = {10, 4, 50, 3, 80};
        for (int what = 0; what < 5; what++) {
            due.is("new rule(" + what + ")", rules[what], x.rule(what));
        }
        for (int rater = 0; rater < 4; rater++) {
            due.is("new habit", 0, x.habit(rater));
        }
        due.is("new as", Due.BEYOND, x.as(0, 0));
        due.is("new set", Due.BEYOND, x.set(0));
        due.is("new order", Due.NONE, x.order(0));
        due.is("new earned", Due.BEYOND, x.earned(0));
        due.is("new check", 0, x.check(0));
    }

    private static void elementsAndKinds() {
        BenchTimes x = new BenchTimes();
        due.is("element(-1)", Due.BEYOND, x.element(-1));
        due.is("element(4)", Due.BEYOND, x.element(4));
        for (int kind = 0; kind < 4; kind++) {
            due.is("element", kind, x.element(kind));
            due.is("of kind", kind, x.of(kind, 0));
        }
        int no = Due.KIND;
        int[][] want = {{10, no, no, no}, {15, 15, no, no}, {25, 25, 25, no}, {5, no, no, 5}};
        for (int element = 0; element < 4; element++) {
            for (int kind = 0; kind < 4; kind++) {
                due.is("as(" + element + ", " + kind + ")", want[element][kind], x.as(element, kind));
            }
        }
        due.is("as no element", Due.BEYOND, x.as(4, 0));
        due.is("as below 0", Due.BEYOND, x.as(-1, 0));
        due.is("as no kind", Due.BEYOND, x.as(0, 4));
        due.is("as kind below 0", Due.BEYOND, x.as(0, -1));
        due.is("found KIND", 8, x.found(5));
        due.is("found BEYOND", 6, x.found(1));
    }

    private static void elementsAreAtMostTwelve() {
        BenchTimes x = new BenchTimes();
        for (int i = 0; i < 12; i++) {
            due.is("element", i, x.element(i % 4));
        }
        due.is("element, full", Due.FULL, x.element(0));
        due.is("element, full and no kind", Due.BEYOND, x.element(4));
        due.is("count", 12, x.count(0));
        due.is("the last one's kind", 3, x.of(11, 0));
    }

    private static void allowances() {
        BenchTimes x = new BenchTimes();
        for (int kind = 0; kind < 4; kind++) {
            x.element(kind);
        }
        due.is("allow(-1, 0)", Due.BEYOND, x.allow(-1, 0));
        due.is("allow(0, -1)", Due.BEYOND, x.allow(0, -1));
        due.is("allow(51, 0)", Due.BEYOND, x.allow(51, 0));
        due.is("allow(0, 51)", Due.BEYOND, x.allow(0, 51));
        due.is("nothing changed", 25, x.as(2, 2));
        due.is("allow(7, 4)", 1, x.allow(7, 4));
        due.is("ELEMENT", 7, x.as(0, 0));
        due.is("HANDLING", 11, x.as(1, 0));
        due.is("STRAIN", 19, x.as(2, 0));
        due.is("MACHINE, cut", 3, x.as(3, 0));
        due.is("allow(50, 50)", 1, x.allow(50, 50));
        due.is("STRAIN", 200, x.as(2, 1));
        due.is("allow(0, 0)", 1, x.allow(0, 0));
        due.is("STRAIN", 0, x.as(2, 1));
    }

    private static void films() {
        BenchTimes x = new BenchTimes();
        due.is("rater -1", Due.BEYOND, x.film(-1, 100, 100));
        due.is("rater 4", Due.BEYOND, x.film(4, 100, 100));
        due.is("is 49", Due.BEYOND, x.film(0, 49, 100));
        due.is("is 151", Due.BEYOND, x.film(0, 151, 100));
        due.is("told 49", Due.BEYOND, x.film(0, 100, 49));
        due.is("told 151", Due.BEYOND, x.film(0, 100, 151));
        due.is("habit(-1)", Due.BEYOND, x.habit(-1));
        due.is("habit(4)", Due.BEYOND, x.habit(4));
        due.is("none yet", 0, x.count(2));
        due.is("film", 1, x.film(3, 100, 97));
        due.is("habit below 0", -3, x.habit(3));
        due.is("film", 2, x.film(3, 100, 96));
        due.is("habit is cut towards 0", -3, x.habit(3));
        due.is("films of all raters", 3, x.film(1, 50, 150));
        due.is("habit of one", 100, x.habit(1));
        due.is("habit of the other", -3, x.habit(3));
        due.is("habit without films", 0, x.habit(0));
        due.is("film", 4, x.film(3, 100, 110));
        due.is("habit", 1, x.habit(3));
        due.is("film", 5, x.film(2, 150, 50));
        due.is("least habit", -100, x.habit(2));
    }

    private static void filmsAreAtMostTwenty() {
        BenchTimes x = new BenchTimes();
        for (int i = 1; i <= 20; i++) {
            due.is("film", i, x.film(i % 4, 100, 101));
        }
        due.is("film, full", Due.FULL, x.film(0, 100, 150));
        due.is("film, full and beyond", Due.BEYOND, x.film(4, 100, 150));
        due.is("habit stays", 1, x.habit(0));
        due.is("count", 20, x.count(2));
    }

    private static void cyclesWrong() {
        BenchTimes x = new BenchTimes();
        due.is("no element", Due.BEYOND, x.cycle(0, 0, 100, 100));
        x.element(0);
        due.is("element -1", Due.BEYOND, x.cycle(-1, 0, 100, 100));
        due.is("element 1", Due.BEYOND, x.cycle(1, 0, 100, 100));
        due.is("rater -1", Due.BEYOND, x.cycle(0, -1, 100, 100));
        due.is("rater 4", Due.BEYOND, x.cycle(0, 4, 100, 100));
        due.is("pace 49", Due.BEYOND, x.cycle(0, 0, 49, 100));
        due.is("pace 151", Due.BEYOND, x.cycle(0, 0, 151, 100));
        due.is("time 0", Due.BEYOND, x.cycle(0, 0, 100, 0));
        due.is("time 1000", Due.BEYOND, x.cycle(0, 0, 100, 1000));
        due.is("none", 0, x.count(1));
        due.is("least", 1, x.cycle(0, 0, 50, 1));
        due.is("greatest", 2, x.cycle(0, 3, 150, 999));
    }

    private static void cyclesAreAtMostSixty() {
        BenchTimes x = new BenchTimes();
        x.element(0);
        x.element(1);
        for (int i = 1; i <= 60; i++) {
            due.is("cycle", i, x.cycle(i % 2, 0, 100, i));
        }
        due.is("cycle, full", Due.FULL, x.cycle(0, 0, 100, 100));
        due.is("cycle, full and beyond", Due.BEYOND, x.cycle(0, 0, 100, 0));
        due.is("count", 60, x.count(1));
        due.is("of one", 30, x.of(0, 1));
        due.is("of the other", 30, x.of(1, 1));
        due.is("normal(59)", 60, x.normal(59));
        due.is("normal(60)", Due.BEYOND, x.normal(60));
    }

    private static void normals() {
        BenchTimes x = new BenchTimes();
        x.element(0);
        due.is("normal of none", Due.BEYOND, x.normal(0));
        x.cycle(0, 0, 50, 1);
        x.cycle(0, 0, 99, 201);
        x.cycle(0, 1, 150, 999);
        due.is("normal(-1)", Due.BEYOND, x.normal(-1));
        due.is("normal(3)", Due.BEYOND, x.normal(3));
        due.is("cut to 0", 0, x.normal(0));
        due.is("cut", 198, x.normal(1));
        due.is("normal", 1498, x.normal(2));
        x.film(0, 100, 150);
        x.film(1, 150, 50);
        due.is("habit as it is now, 1 at least", 0, x.normal(0));
        due.is("habit as it is now", 98, x.normal(1));
        due.is("habit below 0", 2497, x.normal(2));
        x.film(0, 50, 150);
        due.is("99 less 75", 48, x.normal(1));
        x.cycle(0, 0, 75, 999);
        x.cycle(0, 0, 76, 999);
        x.cycle(0, 0, 77, 999);
        due.is("75 less 75, 1 at least", 9, x.normal(3));
        due.is("76 less 75", 9, x.normal(4));
        due.is("77 less 75", 19, x.normal(5));
    }

    private static void keptAndLevel() {
        BenchTimes x = new BenchTimes();
        x.element(0);
        int[] times = {102, 76, 127, 77, 128, 300, 12};
        for (int time : times) {
            x.cycle(0, 0, 100, time);
        }
        // In order 12 76 77 102 127 128 300: MIDDLE 102, a quarter 25.
        due.is("cycles", 7, x.of(0, 1));
        due.is("kept", 3, x.of(0, 2));
        due.is("level", 102, x.of(0, 3));
        due.is("standard", 113, x.of(0, 4));
        due.is("least", 77, x.of(0, 5));
        due.is("greatest", 127, x.of(0, 6));
        x.cycle(0, 0, 100, 101);
        x.cycle(0, 0, 100, 5);
        // In order 5 12 76 77 101 102 127 128 300: MIDDLE 101, a quarter 25, LEVEL (76+77+101+102) / 4.
        due.is("kept", 4, x.of(0, 2));
        due.is("level is cut", 89, x.of(0, 3));
        due.is("least", 76, x.of(0, 5));
        due.is("greatest", 102, x.of(0, 6));
        x.film(0, 100, 50);
        due.is("normals move with the habit", 153, x.of(0, 6));
    }

    private static void middleOfAnEvenRow() {
        BenchTimes x = new BenchTimes();
        x.element(3);
        x.cycle(0, 0, 100, 20);
        x.cycle(0, 0, 100, 10);
        due.is("the lesser of two is MIDDLE", 10, x.of(0, 3));
        due.is("kept", 1, x.of(0, 2));
        due.is("greatest", 10, x.of(0, 6));
        x.cycle(0, 0, 100, 12);
        x.cycle(0, 0, 100, 13);
        due.is("place 1 of 4", 12, x.of(0, 5) + x.of(0, 2) - 1);
        due.is("10, 12, 13 are KEPT", 11, x.of(0, 3));
        BenchTimes y = new BenchTimes();
        y.element(0);
        y.cycle(0, 0, 50, 1);
        y.cycle(0, 0, 100, 1);
        due.is("MIDDLE 0 keeps 0 alone", 1, y.of(0, 2));
        due.is("STANDARD 0", 0, y.of(0, 4));
    }

    private static void standards() {
        BenchTimes x = new BenchTimes();
        for (int kind = 0; kind < 4; kind++) {
            x.element(kind);
            x.cycle(kind, 0, 100, 100);
        }
        due.is("no rest", 110, x.of(0, 4));
        due.is("no rest", 115, x.of(1, 4));
        due.is("no rest", 125, x.of(2, 4));
        due.is("no rest", 105, x.of(3, 4));
        BenchTimes y = new BenchTimes();
        y.element(0);
        y.cycle(0, 0, 100, 101);
        due.is("111.1 and a rest", 112, y.of(0, 4));
        y.allow(0, 0);
        due.is("as allowed now", 101, y.of(0, 4));
        BenchTimes z = new BenchTimes();
        z.element(2);
        z.allow(50, 50);
        z.film(0, 150, 50);
        z.cycle(0, 0, 150, 999);
        due.is("the greatest", 7491, z.of(0, 4));
    }

    private static void ofWrong() {
        BenchTimes x = new BenchTimes();
        due.is("of no element", Due.BEYOND, x.of(0, 0));
        x.element(1);
        due.is("of(0, -1)", Due.BEYOND, x.of(0, -1));
        due.is("of(0, 7)", Due.BEYOND, x.of(0, 7));
        due.is("of(1, 2)", Due.BEYOND, x.of(1, 2));
        due.is("of(-1, 2)", Due.BEYOND, x.of(-1, 2));
        due.is("kind", 1, x.of(0, 0));
        due.is("no cycles", 0, x.of(0, 1));
        for (int what = 2; what <= 6; what++) {
            due.is("NONE of " + what, Due.NONE, x.of(0, what));
        }
        due.is("found NONE", 5, x.found(2));
    }
}
