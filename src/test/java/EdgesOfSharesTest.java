/** Promises 10 to 15: each sentence that names an edge, by itself. */
public final class EdgesOfSharesTest {
    private static final int MAX = Integer.MAX_VALUE;
    private static final int MIN = Integer.MIN_VALUE;
    private static final int SHARE = 0;
    private static final int JOINT = 1;
    private static final int SURE = 2;
    private static final int BACK = 3;

    private EdgesOfSharesTest() {
    }

    public static void main(String[] args) throws Exception {
        Edges.runAll(EdgesOfSharesTest.class);
    }

    private static void due(String call, long got, long want) {
        Due.due(call, got, want);
    }

    // ---- 10: buy. In busy() the members are 0 to 4, and 3 is dead; each age has a class.

    static void p10HolderIsNoMember() {
        int[] none = {-1, 5, 24, MIN, MAX};
        for (int holder : none) {
            for (int kind = SHARE; kind <= BACK; kind++) {
                int asked = kind;
                Edges.refused("holder " + holder, Worlds::busy, x -> x.buy(holder, 0, 1, 1, asked, 1));
            }
        }
        Edges.taken("the last member as holder", Worlds::busy, x -> x.buy(4, 0, 1, 1, SHARE, 1), 6);
    }

    static void p10LifeIsNoMember() {
        int[] none = {-1, 5, 24, MIN, MAX};
        for (int life : none) {
            for (int kind = SHARE; kind <= BACK; kind++) {
                int asked = kind;
                Edges.refused("life " + life, Worlds::busy, x -> x.buy(0, life, 1, 1, asked, 1));
            }
        }
        Edges.taken("the last member as life", Worlds::busy, x -> x.buy(0, 4, 1, 1, SHARE, 1), 6);
    }

    static void p10OtherOfJointIsNoMember() {
        int[] none = {-1, 5, 24, MIN, MAX};
        for (int other : none) {
            Edges.refused("other " + other, Worlds::busy, x -> x.buy(0, 1, other, 1, JOINT, 1));
        }
        Edges.taken("the last member as other", Worlds::busy, x -> x.buy(0, 0, 4, 1, JOINT, 0), 6);
        Edges.taken("the first member as other", Worlds::busy, x -> x.buy(0, 4, 0, 1, JOINT, 0), 6);
    }

    static void p10OtherCountsForNoOtherKind() {
        int[] others = {-1, 5, 3, 0, MIN, MAX};
        int[] kinds = {SHARE, SURE, BACK};
        for (int other : others) {
            for (int kind : kinds) {
                SurvivorPurse x = Worlds.busy();
                due("other " + other + " of kind " + kind, x.buy(1, 0, other, 1, kind, 1), 6);
                due("it has no other life", x.share(6, 2), -1);
                due("its class is by its life alone", x.share(6, 4), 0);
            }
        }
    }

    static void p10TheLivesOfJointAreTheSame() {
        for (int m = 0; m < 5; m++) {
            int life = m;
            Edges.refused("lives " + m + " and " + m, Worlds::busy, x -> x.buy(0, life, life, 1, JOINT, 1));
        }
        Edges.taken("the holder can be one of the two", Worlds::busy, x -> x.buy(0, 0, 1, 1, JOINT, 1), 6);
    }

    static void p10ALifeIsKnownDead() {
        for (int kind = SHARE; kind <= BACK; kind++) {
            int asked = kind;
            Edges.refused("a dead life, kind " + kind, Worlds::busy, x -> x.buy(0, 3, 0, 1, asked, 1));
        }
        Edges.refused("a dead other life", Worlds::busy, x -> x.buy(0, 0, 3, 1, JOINT, 1));
        Edges.taken("a dead holder", Worlds::busy, x -> x.buy(3, 0, 1, 1, JOINT, 1), 6);
    }

    static void p10ThereIsNoSuchKind() {
        int[] kinds = {-1, 4, MIN, MAX};
        for (int kind : kinds) {
            Edges.refused("kind " + kind, Worlds::busy, x -> x.buy(0, 0, 1, 1, kind, 1));
        }
        for (int kind = SHARE; kind <= BACK; kind++) {
            SurvivorPurse x = Worlds.busy();
            x.buy(0, 0, 1, 1, kind, 1);
            due("KIND", x.share(6, 5), kind);
        }
    }

    static void p10UnitsAreNot1To1000() {
        int[] units = {0, -1, MIN, 1001, MAX};
        for (int n : units) {
            for (int kind = SHARE; kind <= BACK; kind++) {
                int asked = kind;
                Edges.refused("units " + n, Worlds::busy, x -> x.buy(0, 0, 1, n, asked, 1));
            }
        }
        SurvivorPurse x = Worlds.newborn(1, 10000);
        due("1 unit", x.buy(0, 0, 0, 1, SHARE, 0), 0);
        due("1000 units", x.buy(0, 0, 0, 1000, SHARE, 0), 1);
        due("PAID for 1", x.share(0, 6), 10000);
        due("PAID for 1000", x.share(1, 6), 10000000);
    }

    static void p10YearsOfSureAndBackAreNot1To30() {
        int[] years = {0, -1, MIN, 31, MAX};
        for (int n : years) {
            Edges.refused("SURE for " + n, Worlds::busy, x -> x.buy(0, 0, 0, 1, SURE, n));
            Edges.refused("BACK for " + n, Worlds::busy, x -> x.buy(0, 0, 0, 1, BACK, n));
            Edges.taken("SHARE with " + n, Worlds::busy, x -> x.buy(0, 0, 0, 1, SHARE, n), 6);
            Edges.taken("JOINT with " + n, Worlds::busy, x -> x.buy(0, 0, 1, 1, JOINT, n), 6);
        }
        for (int kind = SURE; kind <= BACK; kind++) {
            int asked = kind;
            Edges.taken("1 year", Worlds::busy, x -> x.buy(0, 0, 0, 1, asked, 1), 6);
            Edges.taken("30 years", Worlds::busy, x -> x.buy(0, 0, 0, 1, asked, 30), 6);
        }
    }

    private static SurvivorPurse agesFrom20To40() {
        SurvivorPurse x = new SurvivorPurse();
        int[] births = {-19, -20, -40, -41};
        for (int birth : births) {
            x.member(birth);
        }
        x.group(20, 40, 1);
        return x;
    }

    static void p10ThereIsNoClass() {
        Edges.refused("below LOW", EdgesOfSharesTest::agesFrom20To40, x -> x.buy(0, 0, 0, 1, SHARE, 0));
        Edges.refused("above HIGH", EdgesOfSharesTest::agesFrom20To40, x -> x.buy(0, 3, 0, 1, SHARE, 0));
        Edges.taken("at LOW", EdgesOfSharesTest::agesFrom20To40, x -> x.buy(0, 1, 0, 1, SHARE, 0), 0);
        Edges.taken("at HIGH", EdgesOfSharesTest::agesFrom20To40, x -> x.buy(0, 2, 0, 1, SHARE, 0), 0);
        Edges.refused("without classes", () -> {
            SurvivorPurse x = new SurvivorPurse();
            x.member(0);
            return x;
        }, x -> x.buy(0, 0, 0, 1, SHARE, 0));
    }

    static void p10AgeGrowsWithTheYear() {
        SurvivorPurse x = agesFrom20To40();
        x.close(0);
        due("19 is 20 now", x.buy(0, 0, 0, 1, SHARE, 0), 0);
        due("40 is 41 now", x.buy(0, 2, 0, 1, SHARE, 0), Due.NO);
    }

    static void p10NoClassHasAnAgeAbove110() {
        Edges.World oldest = () -> {
            SurvivorPurse x = new SurvivorPurse();
            x.member(-110);
            x.group(0, 110, 1);
            return x;
        };
        Edges.taken("110", oldest, x -> x.buy(0, 0, 0, 1, SHARE, 0), 0);
        Edges.refused("111", () -> {
            SurvivorPurse x = oldest.make();
            x.close(0);
            return x;
        }, x -> x.buy(0, 0, 0, 1, SHARE, 0));
    }

    static void p10TheYoungerOneOfTwo() {
        SurvivorPurse x = agesFrom20To40();
        due("19 and 20: there is no class for 19", x.buy(0, 0, 1, 1, JOINT, 0), Due.NO);
        due("20 and 19", x.buy(0, 1, 0, 1, JOINT, 0), Due.NO);
        due("40 and 41: there is one for 40", x.buy(0, 2, 3, 1, JOINT, 0), 0);
        due("41 and 40", x.buy(0, 3, 2, 1, JOINT, 0), 1);
    }

    static void p10TheFirstClassWithTheAge() {
        SurvivorPurse x = new SurvivorPurse();
        x.member(-30);
        x.group(31, 110, 2);
        x.group(0, 29, 3);
        x.group(30, 30, 4);
        x.group(0, 110, 5);
        x.buy(0, 0, 0, 3, SHARE, 0);
        due("its class", x.share(0, 4), 2);
        due("PAID by the PRICE of that", x.share(0, 6), 12);
        due("STOCK of that", x.about(2, 3), 12);
        due("not of the next", x.about(3, 3), 0);
    }

    static void p10ThereAre40() {
        SurvivorPurse x = Worlds.newborn(1, 2);
        for (int s = 0; s < 40; s++) {
            due("share " + s, x.buy(0, 0, 0, 1, SHARE, 0), s);
        }
        due("the 41st", x.buy(0, 0, 0, 1, SHARE, 0), Due.NO);
        due("nothing was paid for it", x.told(7), 80);
        due("STOCK", x.about(0, 3), 80);
        for (int kind = SHARE; kind <= BACK; kind++) {
            int asked = kind;
            Edges.refused("kind " + kind + " where there are 40", Worlds::full, y -> y.buy(0, 0, 1, 1, asked, 1));
        }
    }

    static void p10WrongInSeveralWays() {
        Edges.refused("all is wrong", Worlds::busy, x -> x.buy(-1, -1, -1, 0, -1, 0));
        Edges.refused("all is far too great", Worlds::busy, x -> x.buy(MAX, MAX, MAX, MAX, MAX, MAX));
        Edges.refused("all is wrong without anybody", SurvivorPurse::new, x -> x.buy(0, 0, 0, 1, SHARE, 0));
    }

    // ---- 11: sell

    static void p11ThereIsNoSuchShare() {
        int[] none = {-1, 6, 40, MIN, MAX};
        for (int s : none) {
            Edges.refused("sell(" + s + ", 0)", Worlds::busy, x -> x.sell(s, 0));
        }
        Edges.refused("sell(0, 0) without shares", () -> Worlds.newborn(1, 1), x -> x.sell(0, 0));
        Edges.refused("sell(40, 0) of 40", Worlds::full, x -> x.sell(40, 0));
        Edges.taken("sell(39, 0) of 40", Worlds::full, x -> x.sell(39, 0), 15);
    }

    static void p11ThereIsNoSuchMember() {
        int[] none = {-1, 5, 24, MIN, MAX};
        for (int holder : none) {
            Edges.refused("sell(0, " + holder + ")", Worlds::busy, x -> x.sell(0, holder));
        }
        Edges.refused("sell(0, 24) of 24", Worlds::full, x -> x.sell(0, 24));
        Edges.taken("sell(0, 23) of 24", Worlds::full, x -> x.sell(0, 23), 0);
    }

    static void p11ToTheDeadOrToItsHolder() {
        SurvivorPurse x = Worlds.busy();
        due("to a dead member", x.sell(0, 3), 0);
        due("to its holder: no NO names it", x.sell(0, 3), 3);
        due("HOLDER", x.share(0, 0), 3);
    }

    // ---- 12: split

    static void p12ThereIsNoSuchShare() {
        int[] none = {-1, 6, 39, 40, MIN, MAX};
        for (int s : none) {
            Edges.refused("split(" + s + ", 1)", Worlds::busy, x -> x.split(s, 1));
        }
        Edges.refused("split(0, 1) without shares", () -> Worlds.newborn(1, 1), x -> x.split(0, 1));
    }

    static void p12UnitsAreNot1ToOneLessThanItsUnits() {
        int[] wrong = {0, -1, MIN, 7, 8, MAX};
        for (int units : wrong) {
            Edges.refused("split(1, " + units + ") of 7", Worlds::busy, x -> x.split(1, units));
        }
        SurvivorPurse x = Worlds.busy();
        due("one of 7", x.split(1, 1), 6);
        due("all but one of 6", x.split(1, 5), 7);
        due("old UNITS", x.share(1, 3), 1);
        due("new UNITS", x.share(6, 3), 1);
        due("newest UNITS", x.share(7, 3), 5);
    }

    static void p12AShareOfOneUnitCannotBeSplit() {
        Edges.World one = () -> {
            SurvivorPurse x = Worlds.newborn(1, 9);
            x.buy(0, 0, 0, 1, SHARE, 0);
            return x;
        };
        Edges.refused("split(0, 0)", one, x -> x.split(0, 0));
        Edges.refused("split(0, 1)", one, x -> x.split(0, 1));
    }

    static void p12ThereAre40() {
        SurvivorPurse x = Worlds.newborn(1, 2);
        x.buy(0, 0, 0, 1000, SHARE, 0);
        for (int s = 1; s < 40; s++) {
            due("share " + s, x.split(0, 2), s);
        }
        due("the 41st", x.split(0, 2), Due.NO);
        due("UNITS left", x.share(0, 3), 1000 - 78);
        due("nor is one bought", x.buy(0, 0, 0, 1, SHARE, 0), Due.NO);
        Edges.refused("split(39, 1) where there are 40", Worlds::full, y -> y.split(39, 1));
    }

    /** 7 units of 10 coins: 16 paid out for 0, 5 held for 1, 13 held for 2, 8 pledged to 1. */
    private static SurvivorPurse sevenUnits() {
        SurvivorPurse x = Worlds.newborn(3, 10);
        x.buy(0, 0, 0, 7, SHARE, 0);
        x.proof(0);
        x.close(16);
        x.close(5);
        x.close(13);
        x.pledge(0, 1, 8);
        x.split(0, 3);
        return x;
    }

    static void p12PaidIsParted() {
        SurvivorPurse x = sevenUnits();
        due("new", x.share(1, 6), 30);
        due("old", x.share(0, 6), 40);
        due("STOCK is as it was", x.about(0, 3), 70);
        due("nothing was paid anew", x.told(7), 70 + 34);
    }

    static void p12DrawnIsCutAndTheOldOneKeepsTheRest() {
        SurvivorPurse x = sevenUnits();
        due("new: 16 times 3 by 7", x.share(1, 7), 6);
        due("old", x.share(0, 7), 10);
    }

    static void p12HeldIsCutForEachYear() {
        SurvivorPurse x = sevenUnits();
        due("new: 5 and 13, times 3 by 7, each cut", x.share(1, 8), 2 + 5);
        due("old", x.share(0, 8), 3 + 8);
        due("HELD of all", x.told(3), 18);
    }

    static void p12DrawsAreCutForEachYear() {
        SurvivorPurse x = sevenUnits();
        long[] fresh = {6, 2, 5};
        long[] old = {10, 3, 8};
        for (int year = 0; year < 3; year++) {
            due("new, " + year, x.drew(1, year), fresh[year]);
            due("old, " + year, x.drew(0, year), old[year]);
        }
    }

    static void p12PledgedIsCut() {
        SurvivorPurse x = sevenUnits();
        due("new: 8 times 3 by 7", x.share(1, 12), 3);
        due("old", x.share(0, 12), 5);
        due("all HELD is paid", x.proof(0), 18);
        due("both are pledged to the same", x.of(1, 0), 8);
    }

    static void p12WhatIsTooLittleStaysWithTheOldOne() {
        SurvivorPurse x = Worlds.newborn(2, 10);
        x.buy(0, 0, 0, 1000, SHARE, 0);
        x.proof(0);
        x.close(1);
        x.close(1);
        x.pledge(0, 1, 1);
        x.split(0, 999);
        int[] whats = {7, 8, 12};
        for (int what : whats) {
            due("new, " + what, x.share(1, what), 0);
            due("old, " + what, x.share(0, what), 1);
        }
        due("new drew", x.drew(1, 0), 0);
        due("old drew", x.drew(0, 0), 1);
    }

    static void p12GreatAmountsDoNotWrapAround() {
        SurvivorPurse x = Worlds.newborn(2, 10000);
        x.buy(0, 0, 0, 1000, SURE, 30);
        x.pledge(0, 1, 1000000000);
        for (int year = 0; year < 30; year++) {
            x.close(100000000);
        }
        x.pledge(0, 1, 1000000000);
        x.split(0, 999);
        due("PAID", x.share(1, 6), 9990000);
        due("DRAWN", x.share(1, 7), 2997000000L);
        due("pledged", x.share(1, 12), 999000000);
        due("drew", x.drew(1, 29), 99900000);
        due("the old one's DRAWN", x.share(0, 7), 3000000);
    }

    static void p12AllElseIsAlike() {
        SurvivorPurse x = Worlds.newborn(4, 10);
        x.close(0);
        x.buy(3, 1, 2, 4, JOINT, 0);
        x.close(0);
        x.close(0);
        x.split(0, 1);
        int[] whats = {0, 1, 2, 4, 5, 9, 10, 11};
        long[] wants = {3, 1, 2, 0, 1, 1, 2, 2};
        for (int i = 0; i < whats.length; i++) {
            due("new, " + whats[i], x.share(1, whats[i]), wants[i]);
            due("old, " + whats[i], x.share(0, whats[i]), wants[i]);
        }
    }

    static void p12ItsClassIsAlike() {
        SurvivorPurse x = Worlds.stairs(3);
        x.buy(2, 2, 0, 5, SHARE, 0);
        due("split", x.split(3, 2), 4);
        due("new class", x.share(4, 4), 2);
        due("shares of the class", x.about(2, 5), 3);
        due("UNITS of the class", x.about(2, 4), 6);
    }

    static void p12YearsSureAreAlike() {
        for (int kind = SURE; kind <= BACK; kind++) {
            SurvivorPurse x = Worlds.newborn(1, 10);
            x.close(0);
            x.buy(0, 0, 0, 4, kind, 2);
            x.close(0);
            x.split(0, 1);
            due("still LIVE", x.share(1, 11), 0);
            x.close(0);
            due("not any more", x.share(1, 11), 1);
        }
    }

    static void p12BackThatWentIsAlike() {
        SurvivorPurse x = Worlds.newborn(2, 10);
        x.buy(0, 0, 0, 4, BACK, 1);
        x.death(0, 0);
        x.close(0);
        due("BACK went", x.of(0, 0), 40);
        x.split(0, 2);
        x.buy(1, 1, 0, 4, SHARE, 0);
        x.close(0);
        due("it goes for neither", x.of(0, 0), 40);
        due("STOCK", x.about(0, 3), 40);
    }

    static void p12BackThatDidNotGoGoesForBoth() {
        SurvivorPurse x = Worlds.newborn(2, 10);
        x.buy(0, 0, 0, 4, BACK, 1);
        x.split(0, 1);
        x.sell(1, 1);
        x.death(0, 0);
        x.close(0);
        due("of the old one", x.of(0, 0), 30);
        due("of the new one", x.of(1, 0), 10);
    }

    static void p12WhatWasPaidOutAndHeldStaysSo() {
        SurvivorPurse x = sevenUnits();
        x.sell(1, 2);
        due("paid above the death is owed: nothing in 0", x.death(0, 0), 0);
        due("HELD of both goes to CARRY", x.told(1), 18);
        SurvivorPurse y = sevenUnits();
        y.sell(1, 2);
        y.proof(0);
        due("2 and 5 of the new one, 3 and 8 of the old one", y.death(0, 0), 18);
        due("the old one's holder", y.of(0, 1), 11);
        due("the new one's holder", y.of(2, 1), 7);
    }

    // ---- 13: pledge

    static void p13ThereIsNoSuchShare() {
        int[] none = {-1, 6, 40, MIN, MAX};
        for (int s : none) {
            Edges.refused("pledge(" + s + ", 0, 1)", Worlds::busy, x -> x.pledge(s, 0, 1));
        }
        Edges.refused("pledge(0, 0, 0) without shares", () -> Worlds.newborn(1, 1), x -> x.pledge(0, 0, 0));
        Edges.refused("pledge(40, 0, 1) of 40", Worlds::full, x -> x.pledge(40, 0, 1));
        Edges.taken("pledge(39, 0, 1) of 40", Worlds::full, x -> x.pledge(39, 0, 1), 0);
    }

    static void p13ThereIsNoSuchMember() {
        int[] none = {-1, 5, 24, MIN, MAX};
        for (int to : none) {
            Edges.refused("pledge(0, " + to + ", 1)", Worlds::busy, x -> x.pledge(0, to, 1));
            Edges.refused("pledge(0, " + to + ", 0)", Worlds::busy, x -> x.pledge(0, to, 0));
        }
        Edges.taken("pledge(0, 23, 1) of 24", Worlds::full, x -> x.pledge(0, 23, 1), 0);
    }

    static void p13AmountIsNot0To1000000000() {
        int[] amounts = {-1, MIN, 1000000001, MAX};
        for (int amount : amounts) {
            Edges.refused("pledge(0, 1, " + amount + ")", Worlds::busy, x -> x.pledge(0, 1, amount));
        }
        SurvivorPurse x = Worlds.busy();
        due("0 on what was 1000", x.pledge(0, 1, 0), 1000);
        due("1000000000 on 0", x.pledge(0, 1, 1000000000), 0);
        due("still pledged", x.share(0, 12), 1000000000);
    }

    static void p13FromNowOnToAnother() {
        SurvivorPurse x = Worlds.newborn(3, 10);
        x.buy(0, 0, 0, 1, SHARE, 0);
        x.pledge(0, 1, 100);
        due("what was still pledged", x.pledge(0, 2, 30), 100);
        x.proof(0);
        x.close(50);
        due("nothing to the first", x.of(1, 0), 0);
        due("all to the second", x.of(2, 0), 30);
        due("the rest to the holder", x.of(0, 0), 20);
    }

    static void p13ToItsHolderOrToTheDead() {
        SurvivorPurse x = Worlds.newborn(3, 10);
        x.buy(0, 0, 0, 1, SHARE, 0);
        x.pledge(0, 0, 30);
        x.proof(0);
        x.close(50);
        due("the holder has both", x.of(0, 0), 50);
        due("the pledge is less", x.share(0, 12), 0);
        x.death(2, 0);
        x.pledge(0, 2, 30);
        x.proof(0);
        x.close(50);
        due("the dead one's PURSE", x.of(2, 0), 30);
    }

    // ---- 14: share

    static void p14ThereIsNoSuchShare() {
        int[] none = {-1, 6, 40, MIN, MAX};
        for (int s : none) {
            for (int what = 0; what <= 12; what++) {
                due("share(" + s + ", " + what + ")", Worlds.busy().share(s, what), Due.NO);
            }
            Edges.refused("share(" + s + ", 0)", Worlds::busy, x -> x.share(s, 0));
        }
        due("share(40, 0) of 40", Worlds.full().share(40, 0), Due.NO);
        due("share(39, 3) of 40", Worlds.full().share(39, 3), 41);
    }

    static void p14ThereIsNoSuchWhat() {
        int[] none = {-1, 13, MIN, MAX};
        for (int what : none) {
            Edges.refused("share(0, " + what + ")", Worlds::busy, x -> x.share(0, what));
        }
        due("the last what", Worlds.busy().share(0, 12), 1000);
    }

    static void p14Minus1ForNoOtherLife() {
        SurvivorPurse x = Worlds.newborn(2, 1);
        for (int kind = SHARE; kind <= BACK; kind++) {
            x.buy(0, 1, 0, 1, kind, 1);
            due("kind " + kind, x.share(kind, 2), kind == JOINT ? 0 : -1);
        }
    }

    static void p14HowItIs() {
        SurvivorPurse x = Worlds.newborn(1, 1);
        x.set(0, 1);
        x.buy(0, 0, 0, 1, SURE, 1);
        due("LIVE", x.share(0, 11), 0);
        x.close(0);
        due("it WAITS", x.share(0, 11), 1);
        x.close(0);
        due("LOST", x.share(0, 11), 2);
        x.death(0, 0);
        due("at an END", x.share(0, 11), 3);
    }

    // ---- 15: drew

    static void p15ThereIsNoSuchShare() {
        int[] none = {-1, 6, 40, MIN, MAX};
        for (int s : none) {
            Edges.refused("drew(" + s + ", 0)", Worlds::busy, x -> x.drew(s, 0));
        }
        due("drew(40, 0) of 40", Worlds.full().drew(40, 0), Due.NO);
        Due.holds("drew(39, 0) of 40", Worlds.full().drew(39, 0) > 0);
    }

    static void p15YearIsNot0ToOneLessThanTheYear() {
        int[] years = {-1, 4, 5, 60, MIN, MAX};
        for (int year : years) {
            Edges.refused("drew(0, " + year + ") in 4", Worlds::busy, x -> x.drew(0, year));
        }
        Due.holds("drew(0, 0)", Worlds.busy().drew(0, 0) > 0);
        Due.holds("drew(0, 3)", Worlds.busy().drew(0, 3) >= 0);
    }

    static void p15NoYearIsClosed() {
        Edges.World bought = () -> {
            SurvivorPurse x = Worlds.newborn(1, 1);
            x.buy(0, 0, 0, 1, SHARE, 0);
            return x;
        };
        Edges.refused("drew(0, 0)", bought, x -> x.drew(0, 0));
        Edges.refused("drew(0, -1)", bought, x -> x.drew(0, -1));
        SurvivorPurse x = bought.make();
        x.close(9);
        due("one is", x.drew(0, 0), 9);
        due("THE YEAR is not", x.drew(0, 1), Due.NO);
    }

    static void p15TheLastYears() {
        SurvivorPurse x = Worlds.newborn(1, 1);
        for (int year = 0; year < 59; year++) {
            x.close(0);
        }
        x.buy(0, 0, 0, 1, SHARE, 0);
        x.proof(0);
        x.close(77);
        due("the last year that can be closed", x.drew(0, 59), 77);
        due("60 can't", x.drew(0, 60), Due.NO);
        due("ahead of SINCE", x.drew(0, 58), 0);
        x.proof(0);
        due("in 60 it is as it was", x.drew(0, 59), 77);
    }

    static void p15HeldOrPaidOut() {
        SurvivorPurse x = Worlds.newborn(1, 1);
        x.buy(0, 0, 0, 1, SHARE, 0);
        x.close(5);
        due("HELD", x.drew(0, 0), 5);
        x.proof(0);
        due("PAID OUT from what was HELD", x.drew(0, 0), 5);
        x.close(6);
        due("PAID OUT at once", x.drew(0, 1), 6);
    }

    static void p15NothingOfWhatWentToCarry() {
        SurvivorPurse x = Worlds.newborn(1, 1);
        x.buy(0, 0, 0, 1, SHARE, 0);
        x.close(5);
        x.close(6);
        x.death(0, 0);
        due("for the year of DEATH", x.drew(0, 0), 5);
        due("for the year above it", x.drew(0, 1), 0);
        due("CARRY", x.told(1), 6);
    }

    static void p15WhatIsOwedWasDrawn() {
        SurvivorPurse x = Worlds.newborn(1, 1);
        x.buy(0, 0, 0, 1, SHARE, 0);
        x.proof(0);
        x.close(5);
        x.proof(0);
        x.close(6);
        due("owed", x.death(0, 0), 6);
        due("but drawn", x.drew(0, 1), 6);
        due("DRAWN", x.share(0, 7), 11);
    }

    static void p15LostDrawsNothing() {
        SurvivorPurse x = Worlds.newborn(1, 1);
        x.set(0, 1);
        x.buy(0, 0, 0, 1, SHARE, 0);
        x.close(5);
        x.close(6);
        due("LOST", x.drew(0, 1), 0);
        due("CARRY", x.told(1), 6);
        x.set(0, 3);
        x.close(0);
        due("it WAITS again, with more PATIENCE", x.drew(0, 2), 6);
        due("HELD", x.share(0, 8), 11);
        due("all that it HELD", x.proof(0), 11);
    }
}
