/** Promises 16 to 23: each sentence that names an edge, by itself. */
public final class EdgesOfYearsTest {
    private static final int MAX = Integer.MAX_VALUE;
    private static final int MIN = Integer.MIN_VALUE;
    private static final int SHARE = 0;
    private static final int JOINT = 1;
    private static final int SURE = 2;
    private static final int BACK = 3;

    private EdgesOfYearsTest() {
    }

    public static void main(String[] args) throws Exception {
        Edges.runAll(EdgesOfYearsTest.class);
    }

    private static void due(String call, long got, long want) {
        Due.due(call, got, want);
    }

    // ---- 16: proof. In busy() the members are 0 to 4; 3 is dead, and 2 is proved.

    static void p16ThereIsNoSuchMember() {
        int[] none = {-1, 5, 24, MIN, MAX};
        for (int m : none) {
            Edges.refused("proof(" + m + ")", Worlds::busy, x -> x.proof(m));
        }
        Edges.refused("proof(0) without members", SurvivorPurse::new, x -> x.proof(0));
        Edges.refused("proof(24) of 24", Worlds::full, x -> x.proof(24));
        Due.holds("proof(23) of 24", Worlds.full().proof(23) >= 0);
    }

    static void p16ItIsKnownDead() {
        Edges.refused("proof(3)", Worlds::busy, x -> x.proof(3));
    }

    static void p16ItIsProved() {
        Edges.refused("proof(2)", Worlds::busy, x -> x.proof(2));
        Edges.refused("proof(0) at once again", () -> {
            SurvivorPurse x = Worlds.busy();
            x.proof(0);
            return x;
        }, x -> x.proof(0));
    }

    static void p16ForTheYearAlone() {
        SurvivorPurse x = Worlds.newborn(1, 1);
        due("in 0", x.proof(0), 0);
        x.close(0);
        due("not PROVED in 1", x.of(0, 3), 0);
        due("in 1", x.proof(0), 0);
        due("PROVED in 1", x.of(0, 3), 1);
    }

    static void p16NothingWasHeld() {
        SurvivorPurse x = Worlds.newborn(2, 1);
        due("without shares", x.proof(0), 0);
        x.buy(1, 1, 0, 1, SHARE, 0);
        due("a share that HELD nothing", x.proof(1), 0);
        x.close(5);
        due("a share that was LIVE", x.proof(1), 0);
    }

    static void p16TheWholeAmountIsTold() {
        SurvivorPurse x = Worlds.newborn(3, 1);
        x.buy(1, 0, 0, 1, SHARE, 0);
        x.buy(2, 0, 1, 1, JOINT, 0);
        x.close(20);
        x.set(1, 300);
        x.pledge(0, 2, 4);
        due("of both shares, with TAX and pledge", x.proof(0), 20);
        due("TAXES", x.told(2), 6);
        due("the first holder", x.of(1, 0), 3);
        due("the second holder", x.of(2, 0), 4 + 7);
    }

    static void p16InTheYear60() {
        SurvivorPurse x = Worlds.newborn(1, 1);
        for (int year = 0; year < 58; year++) {
            x.close(0);
        }
        x.buy(0, 0, 0, 1, SHARE, 0);
        x.close(3);
        x.close(4);
        due("what was HELD for 58 and 59", x.proof(0), 7);
        due("once in 60", x.proof(0), Due.NO);
    }

    // ---- 17: death

    static void p17ThereIsNoSuchMember() {
        int[] none = {-1, 5, 24, MIN, MAX};
        for (int m : none) {
            Edges.refused("death(" + m + ", 4)", Worlds::busy, x -> x.death(m, 4));
        }
        Edges.refused("death(0, 0) without members", SurvivorPurse::new, x -> x.death(0, 0));
        Edges.refused("death(24, 60) of 24", Worlds::full, x -> x.death(24, 60));
        Edges.taken("death(23, 60) of 24", Worlds::full, x -> x.death(23, 60), 0);
    }

    static void p17ItIsKnownDead() {
        Edges.refused("death(3, 0)", Worlds::busy, x -> x.death(3, 0));
        Edges.refused("death(3, 4)", Worlds::busy, x -> x.death(3, 4));
    }

    static void p17YearBelowItsBirth() {
        Edges.refused("death(0, -31)", Worlds::busy, x -> x.death(0, -31));
        Edges.refused("death(4, -1)", Worlds::busy, x -> x.death(4, -1));
        Edges.refused("death(0, MIN)", Worlds::busy, x -> x.death(0, MIN));
        SurvivorPurse x = Worlds.busy();
        x.death(0, -30);
        due("in its BIRTH", x.of(0, 4), -30);
    }

    static void p17YearAboveTheYear() {
        Edges.refused("death(0, 5) in 4", Worlds::busy, x -> x.death(0, 5));
        Edges.refused("death(0, MAX) in 4", Worlds::busy, x -> x.death(0, MAX));
        Edges.refused("death(0, 61) in 60", Worlds::full, x -> x.death(0, 61));
        SurvivorPurse x = Worlds.busy();
        x.death(0, 4);
        due("in THE YEAR", x.of(0, 4), 4);
    }

    static void p17BornInTheYear() {
        Edges.World born = () -> {
            SurvivorPurse x = Worlds.busy();
            x.member(4);
            return x;
        };
        Edges.refused("a year ahead", born, x -> x.death(5, 3));
        Edges.refused("a year behind", born, x -> x.death(5, 5));
        Edges.taken("in that year", born, x -> x.death(5, 4), 0);
    }

    static void p17ItIsNotProvedAnyMore() {
        SurvivorPurse x = Worlds.newborn(2, 1);
        x.buy(0, 0, 1, 1, JOINT, 0);
        x.proof(0);
        due("LIVE", x.share(0, 11), 0);
        x.death(0, 0);
        due("PROVED", x.of(0, 3), 0);
        due("the share WAITS for the other life", x.share(0, 11), 1);
        due("nothing is paid out", x.close(8), 0);
        due("it is HELD", x.share(0, 8), 8);
    }

    static void p17WithoutSharesNothingIsOwed() {
        SurvivorPurse x = Worlds.newborn(1, 1);
        due("death", x.death(0, 0), 0);
        due("no DEBT", x.told(6), 0);
    }

    static void p17OnlyWhatBecameADebtNowIsTold() {
        SurvivorPurse x = Worlds.newborn(3, 1);
        for (int m = 0; m < 2; m++) {
            x.buy(2, m, 0, 1, SHARE, 0);
        }
        for (int year = 0; year < 2; year++) {
            x.proof(0);
            x.proof(1);
            x.close(20);
        }
        due("the first", x.death(0, 0), 10);
        due("the second, on top", x.death(1, 0), 10);
        due("DEBT", x.of(2, 1), 20);
    }

    // ---- 18: close

    static void p18YieldIsNot0To100000000() {
        int[] yields = {-1, MIN, 100000001, MAX};
        for (int yield : yields) {
            Edges.refused("close(" + yield + ")", Worlds::busy, x -> x.close(yield));
        }
        SurvivorPurse x = new SurvivorPurse();
        due("no yield", x.close(0), 0);
        due("the greatest", x.close(100000000), 0);
        due("THE YEAR", x.told(0), 2);
        due("CARRY", x.told(1), 100000000);
    }

    static void p18TheYearIs60() {
        SurvivorPurse x = new SurvivorPurse();
        for (int year = 0; year < 60; year++) {
            due("close in " + year, x.close(1), 0);
        }
        due("close in 60", x.close(1), Due.NO);
        due("THE YEAR", x.told(0), 60);
        due("yielded", x.told(7), 60);
        Edges.refused("close(0) in 60", Worlds::full, y -> y.close(0));
        Edges.refused("close(1) in 60", Worlds::full, y -> y.close(1));
    }

    static void p18HeldIsNotPaidOut() {
        SurvivorPurse x = Worlds.newborn(2, 1);
        x.buy(0, 0, 0, 1, SHARE, 0);
        x.buy(1, 1, 0, 1, SHARE, 0);
        x.proof(0);
        due("of the LIVE one alone", x.close(10), 5);
        due("of none", x.close(10), 0);
    }

    static void p18BackIsNotCounted() {
        SurvivorPurse x = Worlds.newborn(1, 10);
        x.buy(0, 0, 0, 10, BACK, 1);
        x.death(0, 0);
        due("what is drawn in the year sure", x.close(30), 30);
        due("BACK went", x.of(0, 0), 100);
    }

    static void p18WithTaxAndDebtItIsTheWholeAmount() {
        SurvivorPurse x = Worlds.newborn(3, 1);
        x.buy(2, 0, 0, 1, SHARE, 0);
        x.buy(2, 1, 0, 1, SHARE, 0);
        for (int year = 0; year < 2; year++) {
            x.proof(0);
            x.proof(1);
            x.close(20);
        }
        x.death(0, 0);
        x.set(1, 500);
        x.proof(1);
        due("close", x.close(12), 12);
        due("TAXES", x.told(2), 6);
        due("CARRY", x.told(1), 6);
        due("DEBT", x.of(2, 1), 4);
    }

    // ---- 19: of

    static void p19ThereIsNoSuchMember() {
        int[] none = {-1, 5, 24, MIN, MAX};
        for (int m : none) {
            for (int what = 0; what <= 5; what++) {
                due("of(" + m + ", " + what + ")", Worlds.busy().of(m, what), Due.NO);
            }
            Edges.refused("of(" + m + ", 0)", Worlds::busy, x -> x.of(m, 0));
        }
        due("of(24, 2) of 24", Worlds.full().of(24, 2), Due.NO);
        due("of(23, 2) of 24", Worlds.full().of(23, 2), -23);
    }

    static void p19ThereIsNoSuchWhat() {
        int[] none = {-1, 6, MIN, MAX};
        for (int what : none) {
            Edges.refused("of(0, " + what + ")", Worlds::busy, x -> x.of(0, what));
        }
        due("the last what", Worlds.busy().of(1, 5), 4);
    }

    static void p19DeathOfOneThatIsNotKnownDead() {
        SurvivorPurse x = Worlds.newborn(1, 1);
        due("not yet", x.of(0, 4), Due.NO);
        x.death(0, 0);
        due("DEATH in the year 0", x.of(0, 4), 0);
    }

    static void p19NoHeirIsMinus1() {
        due("of(0, 5)", Worlds.busy().of(0, 5), -1);
    }

    // ---- 20: about

    static void p20ThereIsNoSuchClass() {
        int[] none = {-1, 3, 6, MIN, MAX};
        for (int k : none) {
            for (int what = 0; what <= 5; what++) {
                due("about(" + k + ", " + what + ")", Worlds.busy().about(k, what), Due.NO);
            }
            Edges.refused("about(" + k + ", 0)", Worlds::busy, x -> x.about(k, 0));
        }
        due("about(6, 0) of 6", Worlds.full().about(6, 0), Due.NO);
        due("about(5, 0) of 6", Worlds.full().about(5, 0), 20);
    }

    static void p20ThereIsNoSuchWhat() {
        int[] none = {-1, 6, MIN, MAX};
        for (int what : none) {
            Edges.refused("about(0, " + what + ")", Worlds::busy, x -> x.about(0, what));
        }
        due("the last what", Worlds.busy().about(0, 5), 4);
    }

    static void p20AnEmptyClass() {
        SurvivorPurse x = new SurvivorPurse();
        x.group(3, 4, 5);
        long[] wants = {3, 4, 5, 0, 0, 0};
        for (int what = 0; what <= 5; what++) {
            due("about(0, " + what + ")", x.about(0, what), wants[what]);
        }
    }

    static void p20UnitsOfThoseThatAreLiveOrWait() {
        SurvivorPurse x = Worlds.newborn(4, 1);
        x.set(0, 1);
        x.buy(0, 0, 0, 1, SHARE, 0);
        x.buy(0, 1, 0, 20, SURE, 9);
        x.buy(0, 2, 0, 300, SHARE, 0);
        due("all", x.about(0, 4), 321);
        x.proof(0);
        x.close(0);
        due("2 is LOST, 0 WAITS, 1 is LIVE", x.about(0, 4), 21);
        x.proof(2);
        due("2 is LIVE again", x.about(0, 4), 321);
        x.death(1, 0);
        due("1 is dead and SURE", x.about(0, 4), 321);
        x.death(2, 0);
        due("2 is at an END", x.about(0, 4), 21);
        due("they are all shares of the class", x.about(0, 5), 3);
        due("STOCK is of all", x.about(0, 3), 321);
    }

    // ---- 21: told

    static void p21AnotherWhat() {
        int[] none = {-1, 11, MIN, MAX};
        for (int what : none) {
            Edges.refused("told(" + what + ")", Worlds::busy, x -> x.told(what));
        }
        due("the last what", Worlds.busy().told(10), 6);
    }

    static void p21EachCoinIsSomewhere() {
        Edges.World[] worlds = {SurvivorPurse::new, Worlds::busy, Worlds::full, () -> Worlds.stairs(6)};
        for (Edges.World world : worlds) {
            SurvivorPurse x = world.make();
            due("CARRY, TAXES, HELD, PURSES, STOCKS", x.told(1) + x.told(2) + x.told(3) + x.told(4) + x.told(5),
                x.told(7));
        }
    }

    static void p21GreatSums() {
        SurvivorPurse x = Worlds.newborn(24, 10000);
        for (int s = 0; s < 40; s++) {
            x.buy(s % 24, s % 24, 0, 1000, SURE, 30);
        }
        for (int year = 0; year < 30; year++) {
            x.close(100000000);
        }
        due("STOCKS", x.told(5), 400000000);
        due("PURSES", x.told(4), 3000000000L);
        due("a PURSE of two shares", x.of(0, 0), 150000000);
        for (int year = 30; year < 60; year++) {
            x.close(100000000);
        }
        due("HELD for two years", x.told(3), 200000000);
        due("CARRY for the 28 others", x.told(1), 2800000000L);
        due("paid and yielded ever", x.told(7), 6400000000L);
        due("all DEBTS", x.told(6), 0);
    }

    static void p21DebtsOfSeveral() {
        SurvivorPurse x = Worlds.newborn(2, 1);
        x.buy(0, 0, 0, 1, SHARE, 0);
        x.buy(1, 1, 0, 2, SHARE, 0);
        for (int year = 0; year < 2; year++) {
            x.proof(0);
            x.proof(1);
            x.close(30);
        }
        x.death(0, 0);
        x.death(1, 0);
        due("10 and 20", x.told(6), 30);
    }

    static void p21GreatDebts() {
        SurvivorPurse x = Worlds.newborn(1, 1);
        x.buy(0, 0, 0, 1, SHARE, 0);
        for (int year = 0; year < 60; year++) {
            x.proof(0);
            x.close(100000000);
        }
        due("59 years are owed", x.death(0, 0), 5900000000L);
        due("DEBT", x.of(0, 1), 5900000000L);
        due("all DEBTS", x.told(6), 5900000000L);
        due("PURSE", x.of(0, 0), 6000000000L);
    }

    // ---- 22, 23: keep, back

    static void p23NothingWasKept() {
        Edges.refused("back() on a new object", SurvivorPurse::new, x -> x.back());
        Edges.refused("back() with shares", () -> Worlds.stairs(6), x -> x.back());
    }

    static void p22KeepAnswers1() {
        SurvivorPurse x = new SurvivorPurse();
        due("nothing there", x.keep(), 1);
        due("again", x.keep(), 1);
        due("where all is full", Worlds.full().keep(), 1);
    }

    static void p23ItStaysKept() {
        SurvivorPurse x = Worlds.busy();
        for (int round = 0; round < 3; round++) {
            due("back", x.back(), 1);
            due("THE YEAR", x.told(0), 1);
            due("CARRY", x.told(1), 3);
            due("PURSE", x.of(0, 0), 314 + 188);
            x.close(1000);
            x.member(0);
        }
    }

    static void p23AnEmptyStateIsKept() {
        SurvivorPurse x = new SurvivorPurse();
        x.keep();
        x.member(0);
        x.group(0, 110, 1);
        x.buy(0, 0, 0, 1, SHARE, 0);
        x.set(0, 5);
        x.set(1, 5);
        x.living(110, 7);
        x.close(9);
        due("back", x.back(), 1);
        for (int what = 0; what <= 10; what++) {
            due("told(" + what + ")", x.told(what), 0);
        }
        due("PATIENCE", x.set(0, 1), 2);
        due("TAX", x.set(1, 1), 0);
        due("LIVING", x.living(110, 8), 1000);
        due("a member", x.of(0, 0), Due.NO);
        due("a class", x.about(0, 0), Due.NO);
        due("a share", x.share(0, 0), Due.NO);
    }

    static void p23AFullStateIsKept() {
        SurvivorPurse x = Worlds.full();
        due("back to 0", x.back(), 1);
        due("THE YEAR", x.told(0), 0);
        due("HELD", x.told(3), 0);
        due("yielded nothing", x.told(7), x.told(5));
        due("still 24", x.member(0), Due.NO);
        due("still 6", x.group(0, 1, 1), Due.NO);
        due("still 40", x.buy(0, 0, 0, 1, SHARE, 0), Due.NO);
        due("a year can be closed", x.close(0), 0);
    }

    static void p23WhatWasKeptFirstIsGone() {
        SurvivorPurse x = new SurvivorPurse();
        x.keep();
        x.close(0);
        x.keep();
        x.close(0);
        x.back();
        due("THE YEAR", x.told(0), 1);
    }

    /** Changes all that can change in busy(), and adds one of each. */
    private static SurvivorPurse disturbed(SurvivorPurse x) {
        x.living(50, 55100);
        x.set(0, 1);
        x.set(1, 555);
        x.member(1);
        x.heir(5, 2);
        x.heir(0, 5);
        x.heir(1, 2);
        x.group(0, 50, 9);
        x.buy(5, 5, 0, 40, BACK, 1);
        x.buy(5, 5, 4, 30, JOINT, 0);
        x.split(1, 3);
        x.sell(0, 5);
        x.sell(2, 0);
        for (int s = 0; s < 9; s++) {
            x.pledge(s, s % 3, 100 + s);
        }
        for (int m = 0; m < 6; m++) {
            x.proof(m);
        }
        x.close(10000);
        x.proof(5);
        x.close(20000);
        x.close(30000);
        x.death(5, 1);
        x.death(4, 2);
        x.death(0, 3);
        x.close(40000);
        x.close(50000);
        x.proof(2);
        return x;
    }

    private static SurvivorPurse busyAndKept() {
        SurvivorPurse x = Worlds.busy();
        x.keep();
        return x;
    }

    static void p22AllIsKept() {
        Edges.alike("keep() itself changes nothing but what is kept", EdgesOfYearsTest::busyAndKept, () -> {
            SurvivorPurse x = busyAndKept();
            x.keep();
            return x;
        });
        Edges.alike("keep(), much, back()", () -> {
            SurvivorPurse x = disturbed(busyAndKept());
            x.back();
            return x;
        }, EdgesOfYearsTest::busyAndKept);
    }

    static void p22WhatIsKeptIsNotTouchedLater() {
        Edges.alike("much, back(), much, back()", () -> {
            SurvivorPurse x = disturbed(busyAndKept());
            x.back();
            disturbed(x);
            x.back();
            return x;
        }, EdgesOfYearsTest::busyAndKept);
    }

    /** One more of each, in rows that disturbed() has used. */
    private static SurvivorPurse oneMoreOfEach(SurvivorPurse x) {
        x.member(-1);
        x.group(0, 110, 4);
        x.buy(5, 5, 0, 3, SHARE, 0);
        x.buy(5, 5, 4, 3, BACK, 2);
        x.split(2, 1);
        return x;
    }

    static void p23WhatComesNewBehindItIsNew() {
        Edges.alike("one more of each behind back()", () -> {
            SurvivorPurse x = disturbed(busyAndKept());
            x.back();
            return oneMoreOfEach(x);
        }, () -> oneMoreOfEach(busyAndKept()));
    }

    private static SurvivorPurse allNew(SurvivorPurse x) {
        x.member(-3);
        x.member(-4);
        x.group(3, 3, 7);
        x.group(4, 4, 8);
        x.buy(0, 1, 0, 3, SHARE, 0);
        x.buy(1, 0, 0, 4, BACK, 1);
        x.buy(1, 0, 1, 4, JOINT, 0);
        return x;
    }

    /** Rows that were used leave nothing: 0 is PROVED and owes, share 0 is pledged and LOST, BACK of 1 went. */
    private static SurvivorPurse usedAndBackToNothing() {
        SurvivorPurse x = new SurvivorPurse();
        x.keep();
        for (int m = 0; m < 3; m++) {
            x.member(0);
        }
        x.group(0, 110, 5);
        x.buy(2, 2, 0, 9, SHARE, 0);
        x.buy(0, 1, 0, 9, BACK, 1);
        for (int year = 0; year < 4; year++) {
            x.proof(1);
            x.proof(2);
            x.close(10);
        }
        x.death(1, 0);
        x.close(70);
        x.close(70);
        x.pledge(0, 1, 50);
        x.proof(0);
        Due.due("DEBT", x.of(0, 1), 15);
        Due.due("PROVED", x.of(0, 3), 1);
        Due.due("LOST", x.share(0, 11), 2);
        Due.due("BACK went", x.about(0, 3), 90 - 25);
        x.back();
        return x;
    }

    static void p23BehindAnEmptyStateAllIsNew() {
        Edges.alike("all new behind back()", () -> allNew(usedAndBackToNothing()), () -> {
            SurvivorPurse x = new SurvivorPurse();
            x.keep();
            return allNew(x);
        });
    }

    static void p23ProofsDeathsAndHeirsToo() {
        SurvivorPurse x = Worlds.newborn(3, 1);
        x.proof(0);
        x.heir(0, 1);
        x.keep();
        x.death(0, 0);
        x.heir(0, 2);
        x.proof(1);
        x.back();
        due("PROVED", x.of(0, 3), 1);
        due("not dead", x.of(0, 4), Due.NO);
        due("HEIR", x.of(0, 5), 1);
        due("not PROVED", x.of(1, 3), 0);
    }

    static void p23BackThatWentComesBack() {
        SurvivorPurse x = Worlds.newborn(1, 10);
        x.buy(0, 0, 0, 1, BACK, 1);
        x.death(0, 0);
        x.keep();
        for (int round = 0; round < 2; round++) {
            x.close(0);
            due("it goes", x.of(0, 0), 10);
            due("STOCK", x.about(0, 3), 0);
            x.back();
            due("it has not gone", x.of(0, 0), 0);
            due("STOCK again", x.about(0, 3), 10);
        }
    }

    // ---- the object

    static void callsUpTo512() {
        SurvivorPurse x = Worlds.newborn(1, 1);
        x.buy(0, 0, 0, 1, SHARE, 0);
        for (int call = 4; call <= 510; call++) {
            x.keep();
        }
        x.close(5);
        due("the 512th call", x.proof(0), 5);
    }
}
