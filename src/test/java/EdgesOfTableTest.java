/** Promises 1 to 5: each sentence that names an edge, by itself. */
public final class EdgesOfTableTest {
    private static final int MAX = Integer.MAX_VALUE;
    private static final int MIN = Integer.MIN_VALUE;

    private EdgesOfTableTest() {
    }

    public static void main(String[] args) throws Exception {
        Edges.runAll(EdgesOfTableTest.class);
    }

    private static void due(String call, long got, long want) {
        Due.due(call, got, want);
    }

    /** Every age from 0 to the last one that is told has 100000 living. */
    private static SurvivorPurse flat(int last) {
        SurvivorPurse x = new SurvivorPurse();
        for (int age = 0; age <= last; age++) {
            x.living(age, 100000);
        }
        return x;
    }

    private static SurvivorPurse nobodyLives() {
        SurvivorPurse x = new SurvivorPurse();
        for (int age = 110; age >= 0; age--) {
            x.living(age, 0);
        }
        return x;
    }

    // ---- 1: a new object

    static void p1TheYearIs0() {
        due("told(0)", new SurvivorPurse().told(0), 0);
    }

    static void p1Nobody() {
        SurvivorPurse x = new SurvivorPurse();
        due("members", x.told(8), 0);
        for (int what = 0; what <= 5; what++) {
            due("of(0, " + what + ")", x.of(0, what), Due.NO);
        }
    }

    static void p1Nothing() {
        SurvivorPurse x = new SurvivorPurse();
        for (int what = 1; what <= 10; what++) {
            due("told(" + what + ")", x.told(what), 0);
        }
        due("no class", x.about(0, 0), Due.NO);
        due("no share", x.share(0, 0), Due.NO);
        due("no draw", x.drew(0, 0), Due.NO);
        due("nothing kept", x.back(), Due.NO);
    }

    static void p1PatienceIs2() {
        due("set(0, 5)", new SurvivorPurse().set(0, 5), 2);
    }

    static void p1TaxIs0() {
        due("set(1, 5)", new SurvivorPurse().set(1, 5), 0);
    }

    static void p1LivingOfEachAge() {
        SurvivorPurse x = new SurvivorPurse();
        for (int age = 0; age <= 110; age++) {
            int living = 100000 - 900 * age;
            due("living(" + age + ", " + living + ")", x.living(age, living), living);
        }
    }

    static void p1AnotherObjectIsNewToo() {
        SurvivorPurse x = Worlds.busy();
        SurvivorPurse y = new SurvivorPurse();
        due("THE YEAR of the first", x.told(0), 4);
        for (int what = 0; what <= 10; what++) {
            due("told(" + what + ") of the second", y.told(what), 0);
        }
        due("LIVING of the second", y.living(50, 55000), 55000);
        due("PATIENCE of the second", y.set(0, 1), 2);
        due("nothing is kept by the second", y.back(), Due.NO);
    }

    // ---- 2: living

    static void p2AgeBelow0() {
        Edges.refused("living(-1, 100000)", Worlds::busy, x -> x.living(-1, 100000));
        Edges.refused("living(MIN, 0)", Worlds::busy, x -> x.living(MIN, 0));
    }

    static void p2AgeAbove110() {
        Edges.refused("living(111, 0)", Worlds::busy, x -> x.living(111, 0));
        Edges.refused("living(MAX, 0)", Worlds::busy, x -> x.living(MAX, 0));
    }

    static void p2AgeFrom0To110() {
        Edges.taken("living(0, 99999)", SurvivorPurse::new, x -> x.living(0, 99999), 100000);
        Edges.taken("living(110, 999)", SurvivorPurse::new, x -> x.living(110, 999), 1000);
    }

    static void p2NBelow0() {
        Edges.refused("living(110, -1)", Worlds::busy, x -> x.living(110, -1));
        Edges.refused("living(110, MIN)", Worlds::busy, x -> x.living(110, MIN));
        Edges.refused("living(50, -1)", EdgesOfTableTest::nobodyLives, x -> x.living(50, -1));
    }

    static void p2NAbove100000() {
        Edges.refused("living(0, 100001)", Worlds::busy, x -> x.living(0, 100001));
        Edges.refused("living(0, MAX)", Worlds::busy, x -> x.living(0, MAX));
    }

    static void p2NFrom0To100000() {
        Edges.taken("living(110, 0)", SurvivorPurse::new, x -> x.living(110, 0), 1000);
        Edges.taken("living(0, 100000)", EdgesOfTableTest::nobodyLives, x -> x.living(0, 100000), 0);
    }

    static void p2AboveThatOfTheAgeAhead() {
        int[] ages = {1, 2, 50, 109, 110};
        for (int age : ages) {
            int ahead = 100000 - 900 * (age - 1);
            Edges.refused("living(" + age + ", one above)", SurvivorPurse::new, x -> x.living(age, ahead + 1));
            Edges.taken("living(" + age + ", as many)", SurvivorPurse::new, x -> x.living(age, ahead), ahead - 900);
        }
    }

    static void p2BelowThatOfTheAgeBehind() {
        int[] ages = {0, 1, 50, 108, 109};
        for (int age : ages) {
            int behind = 100000 - 900 * (age + 1);
            Edges.refused("living(" + age + ", one below)", SurvivorPurse::new, x -> x.living(age, behind - 1));
            Edges.taken("living(" + age + ", as many)", SurvivorPurse::new, x -> x.living(age, behind), behind + 900);
        }
    }

    static void p2NoAgeIsAheadOf0NorBehind110() {
        SurvivorPurse x = new SurvivorPurse();
        due("0 goes above all others", x.living(0, 100000), 100000);
        due("110 goes below all others", x.living(110, 0), 1000);
        due("0 is not behind 110", x.living(110, 1), 0);
        due("110 is not ahead of 0", x.living(0, 99100), 100000);
    }

    static void p2WhatWasSetIsTheNewEdge() {
        SurvivorPurse x = new SurvivorPurse();
        x.living(50, 55500);
        due("51 up to the new 50", x.living(51, 55500), 54100);
        due("51 not above it", x.living(51, 55501), Due.NO);
        x.living(51, 54100);
        due("49 down to the new 50", x.living(49, 55500), 55900);
        due("49 not below it", x.living(49, 55499), Due.NO);
    }

    static void p2AllOrNobodyLive() {
        SurvivorPurse all = flat(110);
        due("all live at 110", all.living(110, 100000), 100000);
        due("none fewer at 109", all.living(109, 99999), Due.NO);
        SurvivorPurse none = nobodyLives();
        due("nobody lives at 0", none.living(0, 0), 0);
        due("none more at 1", none.living(1, 1), Due.NO);
    }

    // ---- 3: foretell

    static void p3IsCut() {
        SurvivorPurse x = new SurvivorPurse();
        due("55000 of 82000", x.foretell(20, 30), 670731);
        due("1900 of 2800", x.foretell(108, 1), 678571);
        due("1000 of 99100", x.foretell(1, 109), 10090);
    }

    static void p3NoYearsLaterAllLive() {
        SurvivorPurse x = new SurvivorPurse();
        due("at 0", x.foretell(0, 0), 1000000);
        due("at 110", x.foretell(110, 0), 1000000);
    }

    static void p3NoneAbove110() {
        SurvivorPurse x = new SurvivorPurse();
        due("to 110", x.foretell(0, 110), 10000);
        due("to 111", x.foretell(0, 111), 0);
        due("from 110", x.foretell(110, 1), 0);
        due("from 60 to 110", x.foretell(60, 50), 21739);
        due("from 60 to 111", x.foretell(60, 51), 0);
    }

    static void p3YearsThatWouldWrapAround() {
        SurvivorPurse x = new SurvivorPurse();
        due("from 0", x.foretell(0, MAX), 0);
        due("from 1", x.foretell(1, MAX), 0);
        due("from 110", x.foretell(110, MAX), 0);
        due("from 110, to the least number", x.foretell(110, MAX - 109), 0);
    }

    static void p3NoneLivingAtThatAge() {
        SurvivorPurse x = nobodyLives();
        due("at 0", x.foretell(0, 0), 0);
        due("from 0", x.foretell(0, 1), 0);
        due("at 110", x.foretell(110, 0), 0);
        due("from 110", x.foretell(110, 1), 0);
        x.living(0, 1);
        due("one lives at 0", x.foretell(0, 0), 1000000);
        due("and none at 1", x.foretell(0, 1), 0);
        due("from 1", x.foretell(1, 0), 0);
    }

    static void p3AgeIsNot0To110() {
        Edges.refused("foretell(-1, 0)", Worlds::busy, x -> x.foretell(-1, 0));
        Edges.refused("foretell(-1, 1)", Worlds::busy, x -> x.foretell(-1, 1));
        Edges.refused("foretell(111, 0)", Worlds::busy, x -> x.foretell(111, 0));
        Edges.refused("foretell(MIN, MAX)", Worlds::busy, x -> x.foretell(MIN, MAX));
        Edges.refused("foretell(MAX, MAX)", Worlds::busy, x -> x.foretell(MAX, MAX));
    }

    static void p3YearsBelow0() {
        Edges.refused("foretell(0, -1)", Worlds::busy, x -> x.foretell(0, -1));
        Edges.refused("foretell(110, -1)", Worlds::busy, x -> x.foretell(110, -1));
        Edges.refused("foretell(110, MIN)", Worlds::busy, x -> x.foretell(110, MIN));
        Edges.refused("foretell(0, -1) where none live", EdgesOfTableTest::nobodyLives, x -> x.foretell(0, -1));
    }

    // ---- 4: mean

    static void p4FromYear1On() {
        SurvivorPurse x = new SurvivorPurse();
        due("110 has no year behind it", x.mean(110), 0);
        due("109 has one: 1000 of 1900, cut", x.mean(109), 526);
        due("0 has all 110", x.mean(0), 55055);
        due("all live for 110 years", flat(110).mean(0), 110000);
    }

    static void p4IsCutOnceForTheSum() {
        SurvivorPurse x = new SurvivorPurse();
        due("2900 of 2800", x.mean(108), 1035);
        due("5700 of 3700, where each year cut would be 1539", x.mean(107), 1540);
    }

    static void p4NoneLivingAtThatAge() {
        SurvivorPurse x = nobodyLives();
        due("at 0", x.mean(0), 0);
        due("at 110", x.mean(110), 0);
        x.living(0, 100000);
        due("all die at once", x.mean(0), 0);
        due("at 1", x.mean(1), 0);
    }

    static void p4AgeIsNot0To110() {
        int[] ages = {-1, 111, MIN, MAX};
        for (int age : ages) {
            Edges.refused("mean(" + age + ")", Worlds::busy, x -> x.mean(age));
        }
    }

    // ---- 5: dearer

    /** mean() of 108 and of 109 are both 500 thousandths when cut; of 108 it is so as a fraction, or more. */
    private static SurvivorPurse halves(int livingAt108) {
        SurvivorPurse x = new SurvivorPurse();
        for (int age = 105; age <= 107; age++) {
            x.living(age, 6400);
        }
        x.living(108, livingAt108);
        x.living(109, 2000);
        x.group(108, 110, 10000);
        x.group(109, 109, 10000);
        return x;
    }

    static void p5AsAFractionNotCut() {
        SurvivorPurse more = halves(5999);
        due("mean(108), cut", more.mean(108), 500);
        due("mean(109), cut", more.mean(109), 500);
        due("more foretold is less dear", more.dearer(0, 1), -1);
        due("the other way", more.dearer(1, 0), 1);
        due("as great", halves(6000).dearer(0, 1), 0);
        due("less foretold is dearer", halves(6001).dearer(0, 1), 1);
    }

    static void p5PricesOneApart() {
        SurvivorPurse x = flat(110);
        x.group(0, 110, 10000);
        x.group(55, 55, 5000);
        x.group(55, 55, 4999);
        x.group(55, 55, 5001);
        due("10000 by 110, 5000 by 55", x.dearer(0, 1), 0);
        due("4999 by 55", x.dearer(0, 2), 1);
        due("5001 by 55", x.dearer(0, 3), -1);
    }

    static void p5NothingForetoldIsGreaterThanAllOthers() {
        SurvivorPurse x = new SurvivorPurse();
        x.group(110, 110, 1);
        x.group(109, 109, 10000);
        due("behind 110 there is nothing", x.dearer(0, 1), 1);
        due("the other way", x.dearer(1, 0), -1);
        x.living(110, 0);
        x.group(108, 110, 1);
        due("behind 109 nobody lives", x.dearer(1, 2), 1);
        due("behind 109 nobody lives, the other way", x.dearer(2, 1), -1);
        x.living(109, 0);
        due("nor at 109", x.dearer(1, 2), 0);
        x.group(106, 106, 10000);
        due("nor at 109, and 106", x.dearer(1, 3), 1);
        due("nor at 109, and 106, the other way", x.dearer(3, 1), -1);
    }

    static void p5NothingForetoldIsAsGreatAsSuch() {
        SurvivorPurse x = nobodyLives();
        x.group(110, 110, 1);
        x.group(0, 0, 10000);
        due("1 and 10000", x.dearer(0, 1), 0);
        due("10000 and 1", x.dearer(1, 0), 0);
        due("with itself", x.dearer(0, 0), 0);
        x.living(0, 7);
        due("some live at 0, none later", x.dearer(0, 1), 0);
        due("the other way", x.dearer(1, 0), 0);
    }

    static void p5WithItself() {
        SurvivorPurse x = Worlds.busy();
        for (int k = 0; k < 3; k++) {
            due("dearer(" + k + ", " + k + ")", x.dearer(k, k), 0);
        }
    }

    static void p5OneIsNoClass() {
        int[] none = {-1, 3, 6, MIN, MAX};
        for (int k : none) {
            Edges.refused("dearer(" + k + ", 0)", Worlds::busy, x -> x.dearer(k, 0));
            Edges.refused("dearer(2, " + k + ")", Worlds::busy, x -> x.dearer(2, k));
            Edges.refused("dearer(" + k + ", " + k + ")", Worlds::busy, x -> x.dearer(k, k));
        }
        Edges.refused("dearer(0, 0) without classes", SurvivorPurse::new, x -> x.dearer(0, 0));
        due("the first and the last of six", Worlds.full().dearer(0, 5), -1);
        due("the seventh", Worlds.full().dearer(0, 6), Due.NO);
    }
}
