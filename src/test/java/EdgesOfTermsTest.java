/** Terms 1 to 4: each sentence that names an edge, by itself. */
public final class EdgesOfTermsTest {
    private static final int SHARE = 0;
    private static final int JOINT = 1;
    private static final int SURE = 2;
    private static final int BACK = 3;
    private static final int LIVE = 0;
    private static final int WAITS = 1;
    private static final int LOST = 2;
    private static final int AT_END = 3;

    private EdgesOfTermsTest() {
    }

    public static void main(String[] args) throws Exception {
        Edges.runAll(EdgesOfTermsTest.class);
    }

    private static void due(String call, long got, long want) {
        Due.due(call, got, want);
    }

    private static void closeYears(SurvivorPurse x, int years) {
        for (int year = 0; year < years; year++) {
            x.close(0);
        }
    }

    // ---- term 1

    static void t1TheYearIs0AtFirstAndCloseEndsIt() {
        SurvivorPurse x = new SurvivorPurse();
        due("at first", x.told(0), 0);
        x.close(0);
        due("behind close()", x.told(0), 1);
        x.close(-1);
        due("behind a refused one", x.told(0), 1);
    }

    static void t1MembersAreNumberedFrom0And24AtMost() {
        SurvivorPurse x = new SurvivorPurse();
        for (int m = 0; m < 24; m++) {
            due("the next number", x.member(0), m);
        }
        due("no more", x.member(0), Due.NO);
        due("no member 24", x.of(24, 0), Due.NO);
    }

    static void t1PurseAndDebtAre0AtFirst() {
        SurvivorPurse x = Worlds.newborn(1, 1);
        due("PURSE", x.of(0, 0), 0);
        due("DEBT", x.of(0, 1), 0);
        due("no HEIR", x.of(0, 5), -1);
    }

    static void t1ClassesAreNumberedFrom0And6AtMost() {
        SurvivorPurse x = new SurvivorPurse();
        for (int k = 0; k < 6; k++) {
            due("the next number", x.group(0, 110, 1), k);
        }
        due("no more", x.group(0, 110, 1), Due.NO);
        due("no class 6", x.about(6, 0), Due.NO);
    }

    static void t1SharesAreNumberedFrom0And40AtMost() {
        SurvivorPurse x = Worlds.newborn(1, 1);
        for (int s = 0; s < 40; s += 2) {
            due("the next number, bought", x.buy(0, 0, 0, 2, SHARE, 0), s);
            due("the next number, split", x.split(s, 1), s + 1);
        }
        due("no more is bought", x.buy(0, 0, 0, 2, SHARE, 0), Due.NO);
        due("no share 40", x.share(40, 0), Due.NO);
        SurvivorPurse y = Worlds.newborn(1, 1);
        for (int s = 0; s < 39; s++) {
            y.buy(0, 0, 0, 2, SHARE, 0);
        }
        due("the last one is split", y.split(0, 1), 39);
        due("no more is split", y.split(1, 1), Due.NO);
    }

    static void t1StockIsWhatWasPaidLessWhatWentBack() {
        SurvivorPurse x = Worlds.newborn(2, 10);
        due("empty", x.about(0, 3), 0);
        x.buy(0, 0, 0, 3, BACK, 1);
        x.buy(0, 0, 0, 4, SHARE, 0);
        due("paid", x.about(0, 3), 70);
        x.death(0, 0);
        x.close(14);
        due("less 30, but for the 14 that were drawn", x.about(0, 3), 70 - 16);
        x.buy(1, 1, 0, 1, SHARE, 0);
        due("paid anew", x.about(0, 3), 64);
    }

    static void t1NothingIsPledgedAtFirst() {
        SurvivorPurse x = Worlds.newborn(2, 10);
        x.buy(0, 0, 0, 1, SHARE, 0);
        due("still pledged", x.share(0, 12), 0);
        x.proof(0);
        x.close(9);
        due("all to the holder", x.of(0, 0), 9);
    }

    // ---- term 2

    static void t2AtAnEndIfAllItsLivesAreKnownDead() {
        for (int first = 0; first <= 1; first++) {
            SurvivorPurse x = Worlds.newborn(2, 1);
            x.buy(0, 0, 1, 1, JOINT, 0);
            x.death(first, 0);
            due("one of two", x.share(0, 11), WAITS);
            x.death(1 - first, 0);
            due("both", x.share(0, 11), AT_END);
        }
        SurvivorPurse y = Worlds.newborn(1, 1);
        y.buy(0, 0, 0, 1, SHARE, 0);
        y.death(0, 0);
        due("its only one", y.share(0, 11), AT_END);
    }

    static void t2ADeadHolderIsNoEnd() {
        SurvivorPurse x = Worlds.newborn(2, 1);
        x.buy(0, 1, 0, 1, SHARE, 0);
        x.death(0, 0);
        due("its life lives", x.share(0, 11), WAITS);
        x.proof(1);
        x.close(5);
        due("the dead holder's PURSE", x.of(0, 0), 5);
    }

    static void t2ItsEndIsTheLatestDeath() {
        int[][] deaths = {{0, 2, 40}, {2, 0, 40}, {1, 1, 60}, {0, 0, 70}, {3, 0, 0}, {0, 3, 0}};
        for (int[] d : deaths) {
            SurvivorPurse x = Worlds.newborn(3, 1);
            x.buy(2, 0, 1, 1, JOINT, 0);
            int[] yields = {5, 10, 20, 40};
            for (int yield : yields) {
                x.proof(0);
                x.close(yield);
            }
            due("the first death", x.death(0, d[0]), 0);
            due("deaths in " + d[0] + " and " + d[1], x.death(1, d[1]), d[2]);
        }
    }

    static void t2SureAndBackAreAtAnEndBehindTheirYears() {
        for (int kind = SURE; kind <= BACK; kind++) {
            SurvivorPurse x = Worlds.newborn(1, 1);
            closeYears(x, 3);
            x.buy(0, 0, 0, 1, kind, 2);
            x.death(0, 0);
            due("in SINCE", x.share(0, 11), LIVE);
            x.close(0);
            due("in the last year sure", x.share(0, 11), LIVE);
            x.close(0);
            due("THE YEAR is SINCE and YEARS SURE", x.share(0, 11), AT_END);
        }
    }

    static void t2LiveIfOneOfItsLivesIsProved() {
        for (int proved = 0; proved <= 2; proved++) {
            SurvivorPurse x = Worlds.newborn(3, 1);
            x.buy(2, 0, 1, 1, JOINT, 0);
            x.buy(2, 0, 1, 1, SHARE, 0);
            x.proof(proved);
            due("JOINT on 0 and 1, " + proved + " is PROVED", x.share(0, 11), proved < 2 ? LIVE : WAITS);
            due("SHARE on 0, " + proved + " is PROVED", x.share(1, 11), proved == 0 ? LIVE : WAITS);
        }
    }

    static void t2LiveIfOneLifeIsProvedAndTheOtherDead() {
        SurvivorPurse x = Worlds.newborn(2, 1);
        x.buy(0, 0, 1, 1, JOINT, 0);
        x.death(0, 0);
        x.proof(1);
        due("how it is", x.share(0, 11), LIVE);
        due("paid out", x.close(3), 3);
    }

    static void t2LiveInTheYearsSure() {
        int[] years = {1, 2, 30};
        for (int sure : years) {
            for (int kind = SURE; kind <= BACK; kind++) {
                SurvivorPurse x = Worlds.newborn(1, 1);
                x.buy(0, 0, 0, 1, kind, sure);
                closeYears(x, sure - 1);
                due("the last of " + sure, x.share(0, 11), LIVE);
                due("UNPROVED", x.share(0, 10), 0);
                x.close(0);
                due("behind the last of " + sure, x.share(0, 11), WAITS);
                due("UNPROVED is still 0", x.share(0, 10), 0);
                x.proof(0);
                due("PROVED behind the last of " + sure, x.share(0, 11), LIVE);
            }
        }
    }

    static void t2YearsSureBeyond60() {
        SurvivorPurse x = Worlds.newborn(1, 1);
        closeYears(x, 59);
        x.buy(0, 0, 0, 1, SURE, 30);
        x.close(0);
        due("in 60", x.share(0, 11), LIVE);
        x.death(0, 0);
        due("dead in 60", x.share(0, 11), LIVE);
    }

    static void t2YearsCountForNoOtherKind() {
        SurvivorPurse x = Worlds.newborn(2, 1);
        x.buy(0, 0, 1, 1, SHARE, 30);
        x.buy(0, 0, 1, 1, JOINT, 30);
        due("SHARE", x.share(0, 11), WAITS);
        due("JOINT", x.share(1, 11), WAITS);
        x.death(0, 0);
        x.death(1, 0);
        due("SHARE, dead", x.share(0, 11), AT_END);
        due("JOINT, dead", x.share(1, 11), AT_END);
    }

    static void t2UnprovedIs0WhenItIsBought() {
        SurvivorPurse x = Worlds.newborn(1, 1);
        closeYears(x, 4);
        x.buy(0, 0, 0, 1, SHARE, 0);
        due("UNPROVED", x.share(0, 10), 0);
        due("it WAITS", x.share(0, 11), WAITS);
    }

    static void t2UnprovedCountsYearsOneBehindTheOther() {
        SurvivorPurse x = Worlds.newborn(1, 1);
        x.buy(0, 0, 0, 1, SHARE, 0);
        for (int year = 1; year <= 4; year++) {
            x.close(0);
            due("years in a row", x.share(0, 10), year);
        }
        x.proof(0);
        due("PROVED", x.share(0, 10), 0);
        x.close(0);
        due("closed while LIVE", x.share(0, 10), 0);
        x.close(0);
        due("the first one behind that", x.share(0, 10), 1);
    }

    static void t2UnprovedIsTakenUpWhereAProvedOneDies() {
        SurvivorPurse x = Worlds.newborn(2, 1);
        x.buy(0, 0, 1, 1, JOINT, 0);
        x.close(0);
        x.proof(0);
        due("PROVED", x.share(0, 10), 0);
        x.death(0, 1);
        x.close(0);
        due("closed while neither LIVE nor at an END", x.share(0, 10), 1);
    }

    static void t2UnprovedOfOneAtAnEnd() {
        SurvivorPurse x = Worlds.newborn(1, 1);
        x.buy(0, 0, 0, 1, SHARE, 0);
        closeYears(x, 3);
        x.death(0, 0);
        due("up to the latest that was closed", x.share(0, 10), 3);
        x.close(0);
        due("the latest was closed at an END", x.share(0, 10), 0);
        x.close(0);
        due("and so on", x.share(0, 10), 0);
    }

    static void t2UnprovedUpTo60() {
        SurvivorPurse x = Worlds.newborn(1, 1);
        x.buy(0, 0, 0, 1, SHARE, 0);
        closeYears(x, 60);
        due("all years", x.share(0, 10), 60);
    }

    static void t2WaitsIfUnprovedIsBelowPatience() {
        for (int patience = 1; patience <= 5; patience++) {
            SurvivorPurse x = Worlds.newborn(1, 1);
            x.set(0, patience);
            x.buy(0, 0, 0, 1, SHARE, 0);
            for (int year = 0; year < patience; year++) {
                due("PATIENCE " + patience + ", UNPROVED " + year, x.share(0, 11), WAITS);
                x.close(10);
            }
            due("PATIENCE " + patience + ", UNPROVED " + patience, x.share(0, 11), LOST);
            x.close(10);
            due("HELD for PATIENCE years", x.share(0, 8), 10 * patience);
            due("CARRY", x.told(1), 10);
        }
    }

    static void t2PatienceIs2AtFirst() {
        SurvivorPurse x = Worlds.newborn(1, 1);
        x.buy(0, 0, 0, 1, SHARE, 0);
        x.close(0);
        due("UNPROVED 1", x.share(0, 11), WAITS);
        x.close(0);
        due("UNPROVED 2", x.share(0, 11), LOST);
    }

    static void t2AChangedPatienceCountsAtOnce() {
        SurvivorPurse x = Worlds.newborn(1, 1);
        x.buy(0, 0, 0, 1, SHARE, 0);
        closeYears(x, 3);
        due("LOST", x.share(0, 11), LOST);
        x.set(0, 4);
        due("UNPROVED 3, PATIENCE 4", x.share(0, 11), WAITS);
        x.set(0, 3);
        due("UNPROVED 3, PATIENCE 3", x.share(0, 11), LOST);
    }

    // ---- term 3: the pot

    static void t3ThePotIsCarryAndTheYield() {
        SurvivorPurse x = Worlds.newborn(1, 1);
        x.close(5);
        x.close(7);
        due("CARRY", x.told(1), 12);
        x.buy(0, 0, 0, 1, SHARE, 0);
        x.proof(0);
        due("CARRY and no yield", x.close(0), 12);
        due("CARRY is 0 then", x.told(1), 0);
    }

    static void t3PartsAreCutAndTheRestGoesToCarry() {
        SurvivorPurse x = new SurvivorPurse();
        x.member(0);
        x.member(-20);
        x.group(0, 10, 1);
        x.group(11, 110, 1);
        x.buy(0, 0, 0, 1, SHARE, 0);
        x.buy(1, 1, 0, 2, SHARE, 0);
        x.proof(0);
        x.proof(1);
        due("33 and 66", x.close(100), 99);
        due("the first", x.share(0, 7), 33);
        due("the second", x.share(1, 7), 66);
        due("CARRY", x.told(1), 1);
    }

    static void t3PartsAreByStockNotByUnits() {
        SurvivorPurse x = new SurvivorPurse();
        x.member(0);
        x.member(-20);
        x.group(0, 10, 9);
        x.group(11, 110, 1);
        x.buy(0, 0, 0, 1, SHARE, 0);
        x.buy(1, 1, 0, 1, SHARE, 0);
        x.close(100);
        due("90 of 100", x.share(0, 8), 90);
        due("10 of 100", x.share(1, 8), 10);
    }

    static void t3NoStocksAtAll() {
        SurvivorPurse x = new SurvivorPurse();
        due("without a class", x.close(4), 0);
        due("CARRY", x.told(1), 4);
        x.group(0, 110, 1);
        due("a class without shares", x.close(5), 0);
        due("CARRY of both", x.told(1), 9);
    }

    static void t3StocksThatAllWentBack() {
        SurvivorPurse x = Worlds.newborn(1, 10);
        x.buy(0, 0, 0, 1, BACK, 1);
        x.death(0, 0);
        x.close(0);
        due("STOCKS", x.told(5), 0);
        due("nobody draws", x.close(6), 0);
        due("CARRY", x.told(1), 6);
    }

    static void t3ThePartGoesToTheNextClassInWhichOneIs() {
        SurvivorPurse x = Worlds.stairs(4);
        x.death(0, 0);
        x.death(1, 0);
        x.close(400);
        due("the parts of 0 and 1, on top of its own", x.share(2, 8), 300);
        due("the next one has its own", x.share(3, 8), 100);
        due("CARRY", x.told(1), 0);
    }

    static void t3ItDoesNotGoToAClassAhead() {
        SurvivorPurse x = Worlds.stairs(3);
        x.death(1, 0);
        x.close(300);
        due("the one ahead", x.share(0, 8), 100);
        due("the one behind", x.share(2, 8), 200);
    }

    static void t3BehindTheLastOneItGoesToCarry() {
        SurvivorPurse x = Worlds.stairs(3);
        x.death(1, 0);
        x.death(2, 0);
        x.close(300);
        due("the first one has its own, nothing wraps around", x.share(0, 8), 100);
        due("CARRY", x.told(1), 200);
    }

    static void t3InNoClassIsOne() {
        SurvivorPurse x = Worlds.stairs(6);
        for (int m = 0; m < 6; m++) {
            x.death(m, 0);
        }
        due("nothing is paid out", x.close(600), 0);
        due("CARRY", x.told(1), 600);
        due("HELD", x.told(3), 0);
    }

    static void t3ThroughAClassWithoutShares() {
        SurvivorPurse x = new SurvivorPurse();
        x.member(0);
        x.member(-20);
        x.group(0, 0, 10);
        x.group(10, 10, 10);
        x.group(20, 20, 10);
        x.buy(0, 0, 0, 1, SHARE, 0);
        x.buy(1, 1, 0, 1, SHARE, 0);
        x.death(0, 0);
        x.close(100);
        due("on to the third", x.share(1, 8), 100);
    }

    static void t3LostOnesDrawNothing() {
        SurvivorPurse x = Worlds.newborn(2, 10);
        x.set(0, 1);
        x.buy(0, 0, 0, 3, SHARE, 0);
        x.buy(1, 1, 0, 1, SHARE, 0);
        x.proof(1);
        x.close(0);
        due("LOST", x.share(0, 11), LOST);
        x.close(50);
        due("it draws nothing", x.drew(0, 1), 0);
        due("all goes to the one that WAITS", x.drew(1, 1), 50);
    }

    static void t3ClassOfLostOnesHandsOn() {
        SurvivorPurse x = Worlds.stairs(2);
        x.set(0, 1);
        x.proof(1);
        x.close(0);
        due("LOST", x.share(0, 11), LOST);
        due("it WAITS", x.share(1, 11), WAITS);
        x.close(100);
        due("handed on", x.share(1, 8), 100);
    }

    static void t3DrawsAreCutAndTheRestGoesToCarry() {
        SurvivorPurse x = Worlds.newborn(3, 1);
        for (int m = 0; m < 3; m++) {
            x.buy(m, m, 0, 1, SHARE, 0);
        }
        x.close(100);
        for (int s = 0; s < 3; s++) {
            due("a third, cut", x.share(s, 8), 33);
        }
        due("CARRY", x.told(1), 1);
        x.close(1);
        due("too little for all", x.drew(0, 1), 0);
        due("CARRY again", x.told(1), 2);
    }

    static void t3LiveIsPaidOutAtOnceAndWaitsIsHeld() {
        SurvivorPurse x = Worlds.newborn(2, 1);
        x.buy(0, 0, 0, 1, SHARE, 0);
        x.buy(1, 1, 0, 1, SHARE, 0);
        x.proof(0);
        x.close(20);
        due("LIVE: DRAWN", x.share(0, 7), 10);
        due("LIVE: HELD", x.share(0, 8), 0);
        due("LIVE: PURSE", x.of(0, 0), 10);
        due("WAITS: DRAWN", x.share(1, 7), 0);
        due("WAITS: HELD", x.share(1, 8), 10);
        due("WAITS: PURSE", x.of(1, 0), 0);
    }

    static void t3SharesComeByRisingNumbersWhateverTheirClass() {
        SurvivorPurse x = new SurvivorPurse();
        x.member(-20);
        x.member(0);
        x.member(0);
        x.group(0, 5, 1);
        x.group(20, 25, 1);
        x.buy(2, 0, 0, 10, SHARE, 0);
        x.buy(2, 1, 0, 10, SHARE, 0);
        x.buy(2, 2, 0, 20, SHARE, 0);
        for (int m = 0; m < 3; m++) {
            x.proof(m);
        }
        x.close(0);
        for (int m = 0; m < 3; m++) {
            x.proof(m);
        }
        x.close(40);
        due("owed", x.death(2, 0), 20);
        x.pledge(0, 0, 100);
        x.pledge(1, 1, 100);
        x.proof(0);
        x.proof(1);
        due("10 and 30", x.close(40), 40);
        due("the lower number, of the higher class, pays the DEBT first", x.of(0, 0), 0);
        due("the other pays the other 10 and its pledge", x.of(1, 0), 20);
    }

    static void t3NobodyIsProvedThen() {
        SurvivorPurse x = Worlds.newborn(24, 1);
        for (int m = 0; m < 24; m++) {
            x.proof(m);
        }
        x.close(0);
        for (int m = 0; m < 24; m++) {
            due("of(" + m + ", 3)", x.of(m, 3), 0);
        }
    }

    static void t3ThePotDoesNotWrapAround() {
        SurvivorPurse x = Worlds.newborn(1, 10000);
        for (int year = 0; year < 59; year++) {
            x.close(100000000);
        }
        due("CARRY", x.told(1), 5900000000L);
        for (int s = 0; s < 40; s++) {
            x.buy(0, 0, 0, 1000, SHARE, 0);
        }
        x.set(1, 1000);
        x.proof(0);
        due("6000000000 times 400000000 by as much", x.close(100000000), 6000000000L);
        due("each", x.share(39, 7), 150000000);
        due("TAXES", x.told(2), 6000000000L);
        due("CARRY then", x.told(1), 0);
    }

    // ---- term 3: what is paid out

    private static SurvivorPurse taxed(int tax, int yield) {
        SurvivorPurse x = Worlds.newborn(1, 1);
        x.buy(0, 0, 0, 1, SHARE, 0);
        x.set(1, tax);
        x.proof(0);
        x.close(yield);
        return x;
    }

    static void t3TaxThousandthsAreCut() {
        int[][] rows = {{0, 1000000, 0}, {1, 999, 0}, {1, 1000, 1}, {1, 1999, 1}, {999, 1, 0}, {999, 1001, 999},
            {500, 3, 1}, {1000, 1, 1}, {1000, 100000000, 100000000}, {1000, 0, 0}};
        for (int[] row : rows) {
            SurvivorPurse x = taxed(row[0], row[1]);
            due("TAX " + row[0] + " of " + row[1], x.told(2), row[2]);
            due("what is left of " + row[1], x.of(0, 0), row[1] - row[2]);
        }
    }

    /** Member 1 owes 100 and holds share 1, the only one that draws, on the life of member 2. */
    private static SurvivorPurse owing() {
        SurvivorPurse x = Worlds.newborn(4, 10);
        x.buy(1, 0, 0, 1, SHARE, 0);
        x.proof(0);
        x.close(0);
        x.proof(0);
        x.close(100);
        x.death(0, 0);
        x.buy(1, 2, 0, 1, SHARE, 0);
        x.proof(2);
        return x;
    }

    static void t3TheDebtAsFarAsItGoes() {
        int[][] rows = {{0, 100, 0}, {1, 99, 0}, {99, 1, 0}, {100, 0, 0}, {101, 0, 1}, {350, 0, 250}};
        for (int[] row : rows) {
            SurvivorPurse x = owing();
            due("owed", x.of(1, 1), 100);
            due("paid out", x.close(row[0]), row[0]);
            due("DEBT behind " + row[0], x.of(1, 1), row[1]);
            due("PURSE behind " + row[0], x.of(1, 0), 100 + row[2]);
            due("CARRY behind " + row[0], x.told(1), 100 - row[1]);
            due("DRAWN grows by the whole", x.share(1, 7), row[0]);
        }
    }

    static void t3TheDebtIsPaidFromWhatTheTaxLeaves() {
        SurvivorPurse x = owing();
        x.set(1, 500);
        x.close(100);
        due("TAXES", x.told(2), 50);
        due("DEBT", x.of(1, 1), 50);
        due("CARRY", x.told(1), 50);
        due("PURSE", x.of(1, 0), 100);
    }

    static void t3TheHoldersDebtAlone() {
        SurvivorPurse x = owing();
        x.sell(1, 3);
        x.close(80);
        due("who owes is not the holder any more", x.of(1, 1), 100);
        due("the holder", x.of(3, 0), 80);
        SurvivorPurse y = owing();
        y.sell(1, 3);
        y.pledge(1, 1, 80);
        y.close(80);
        due("to whom it is PLEDGED owes, and keeps it", y.of(1, 0), 180);
        due("DEBT", y.of(1, 1), 100);
    }

    static void t3WhatIsPledgedAsFarAsItGoes() {
        int[][] rows = {{0, 0, 30}, {1, 1, 29}, {29, 29, 1}, {30, 30, 0}, {31, 30, 0}, {500, 30, 0}};
        for (int[] row : rows) {
            SurvivorPurse x = Worlds.newborn(2, 1);
            x.buy(0, 0, 0, 1, SHARE, 0);
            x.pledge(0, 1, 30);
            x.proof(0);
            x.close(row[0]);
            due("to whom it is PLEDGED, of " + row[0], x.of(1, 0), row[1]);
            due("still pledged", x.share(0, 12), row[2]);
            due("the rest", x.of(0, 0), row[0] - row[1]);
            due("DRAWN grows by the whole", x.share(0, 7), row[0]);
        }
    }

    static void t3ThePledgeComesBehindTheDebt() {
        SurvivorPurse x = owing();
        x.pledge(1, 3, 30);
        x.close(110);
        due("DEBT", x.of(1, 1), 0);
        due("what the DEBT leaves", x.of(3, 0), 10);
        due("still pledged", x.share(1, 12), 20);
        due("PURSE", x.of(1, 0), 100);
        SurvivorPurse y = owing();
        y.pledge(1, 3, 30);
        y.close(100);
        due("the DEBT leaves nothing", y.of(3, 0), 0);
        due("all is still pledged", y.share(1, 12), 30);
    }

    static void t3OnlyThatShareIsPledged() {
        SurvivorPurse x = Worlds.newborn(2, 1);
        x.buy(0, 0, 0, 1, SHARE, 0);
        x.buy(0, 0, 0, 1, SHARE, 0);
        x.pledge(1, 1, 100);
        x.proof(0);
        x.close(20);
        due("of the second share alone", x.of(1, 0), 10);
        due("the first", x.of(0, 0), 10);
        due("its pledge", x.share(0, 12), 0);
    }

    // ---- term 4: proved

    static void t4AllThatItHeldIsPaidOutAsOneAmount() {
        SurvivorPurse x = Worlds.newborn(1, 1);
        x.buy(0, 0, 0, 1, SHARE, 0);
        x.set(1, 100);
        x.close(5);
        x.close(5);
        due("5 and 5", x.proof(0), 10);
        due("TAX of 10, where that of 5 and of 5 is 0", x.told(2), 1);
        due("DRAWN", x.share(0, 7), 10);
        due("HELD", x.share(0, 8), 0);
    }

    static void t4TheLostComeBack() {
        SurvivorPurse x = Worlds.newborn(1, 1);
        x.buy(0, 0, 0, 1, SHARE, 0);
        x.close(5);
        x.close(5);
        x.close(5);
        due("LOST", x.share(0, 11), LOST);
        due("what it HELD", x.proof(0), 10);
        due("LIVE", x.share(0, 11), LIVE);
        due("UNPROVED", x.share(0, 10), 0);
        due("it draws again", x.close(0), 5);
    }

    static void t4OnlySharesWithThatLife() {
        SurvivorPurse x = Worlds.newborn(3, 1);
        x.buy(1, 0, 0, 1, SHARE, 0);
        x.buy(0, 1, 0, 1, SHARE, 0);
        x.buy(2, 2, 0, 1, JOINT, 0);
        x.close(30);
        due("its own and the joint one", x.proof(0), 20);
        due("the one that it holds is still HELD", x.share(1, 8), 10);
        due("UNPROVED of that", x.share(1, 10), 1);
        due("UNPROVED of the joint one", x.share(2, 10), 0);
    }

    static void t4ProvedByRisingNumbers() {
        SurvivorPurse x = owing();
        x.buy(1, 3, 0, 1, SHARE, 0);
        x.buy(1, 3, 0, 1, SHARE, 0);
        x.pledge(2, 2, 1000);
        x.pledge(3, 3, 1000);
        x.death(2, 2);
        x.close(240);
        due("120 and 120", x.proof(3), 240);
        due("the lower number pays the DEBT", x.of(2, 0), 20);
        due("the other does not", x.of(3, 0), 120);
    }

    // ---- term 4: known dead

    /** Member 1 holds the share on 0: in the years 0 to 3 it drew 1, 10 (paid out), 100, 1000 (held). */
    private static SurvivorPurse paidAndHeld() {
        SurvivorPurse x = Worlds.newborn(4, 1);
        x.buy(1, 0, 0, 1, SHARE, 0);
        x.proof(0);
        x.close(1);
        x.proof(0);
        x.close(10);
        x.close(100);
        x.close(1000);
        return x;
    }

    static void t4HeldForYearsAboveTheEndGoesToCarry() {
        int[][] rows = {{0, 1100}, {1, 1100}, {2, 1000}, {3, 0}, {4, 0}};
        for (int[] row : rows) {
            SurvivorPurse x = paidAndHeld();
            x.death(0, row[0]);
            due("CARRY, dead in " + row[0], x.told(1), row[1]);
            due("nothing is HELD", x.told(3), 0);
            for (int year = 2; year <= 3; year++) {
                long held = year == 2 ? 100 : 1000;
                due("drawn for " + year + ", dead in " + row[0], x.drew(0, year), year > row[0] ? 0 : held);
            }
        }
    }

    static void t4HeldForOtherYearsIsPaidOut() {
        int[][] rows = {{0, 11}, {1, 11}, {2, 111}, {3, 1111}, {4, 1111}};
        for (int[] row : rows) {
            SurvivorPurse x = paidAndHeld();
            x.death(0, row[0]);
            due("DRAWN, dead in " + row[0], x.share(0, 7), row[1]);
            due("PURSE, dead in " + row[0], x.of(1, 0), row[1]);
        }
    }

    static void t4HeldIsPaidOutAsOneAmount() {
        SurvivorPurse x = Worlds.newborn(2, 1);
        x.buy(1, 0, 0, 1, SHARE, 0);
        x.set(1, 100);
        x.close(5);
        x.close(5);
        x.death(0, 1);
        due("TAX of 10, where that of 5 and of 5 is 0", x.told(2), 1);
        due("PURSE", x.of(1, 0), 9);
    }

    static void t4WhatWasPaidOutForYearsAboveTheEndIsOwed() {
        int[][] rows = {{0, 10}, {1, 0}, {2, 0}, {4, 0}};
        for (int[] row : rows) {
            SurvivorPurse x = paidAndHeld();
            due("dead in " + row[0], x.death(0, row[0]), row[1]);
            due("DEBT of the holder", x.of(1, 1), row[1]);
            due("not of the life", x.of(0, 1), 0);
        }
    }

    static void t4WhatWasHeldAndThenPaidOutIsOwedToo() {
        int[][] rows = {{0, 1110}, {1, 1100}, {2, 1000}, {3, 0}};
        for (int[] row : rows) {
            SurvivorPurse x = paidAndHeld();
            x.proof(0);
            due("dead in " + row[0], x.death(0, row[0]), row[1]);
            due("nothing goes to CARRY", x.told(1), 0);
        }
    }

    static void t4DeadAheadOfSince() {
        SurvivorPurse x = Worlds.newborn(2, 1);
        closeYears(x, 2);
        x.buy(1, 0, 0, 1, SHARE, 0);
        x.proof(0);
        x.close(7);
        x.close(8);
        due("all that was paid out is owed", x.death(0, 0), 7);
        due("all that was HELD goes to CARRY", x.told(1), 8);
    }

    static void t4OnTopOfWhatTheHolderOwes() {
        SurvivorPurse x = owing();
        x.close(40);
        due("60 is left", x.of(1, 1), 60);
        due("40 is owed for 2", x.death(2, 1), 40);
        due("both", x.of(1, 1), 100);
    }

    static void t4HeldPaysTheOldDebtButNotTheNewOne() {
        SurvivorPurse x = owing();
        x.close(40);
        x.close(10);
        due("HELD: CARRY 40 and 10", x.share(1, 8), 50);
        due("the year 2 is above the END, 3 is too", x.death(2, 1), 40);
        due("DEBT", x.of(1, 1), 100);
        SurvivorPurse y = owing();
        y.close(40);
        y.close(10);
        due("nothing is above the END", y.death(2, 3), 0);
        due("what was HELD pays the DEBT of 60", y.of(1, 1), 10);
    }

    static void t4NothingWhileAnotherLifeIsNotKnownDead() {
        SurvivorPurse x = Worlds.newborn(3, 1);
        x.buy(2, 0, 1, 1, JOINT, 0);
        x.proof(0);
        x.close(5);
        x.proof(0);
        x.close(6);
        x.close(7);
        due("nothing is owed yet", x.death(0, 0), 0);
        due("still HELD", x.share(0, 8), 7);
        due("UNPROVED as it was", x.share(0, 10), 1);
        due("now it is", x.death(1, 0), 6);
        due("and nothing is HELD", x.share(0, 8), 0);
        due("CARRY", x.told(1), 7);
    }

    static void t4OnlyOnceForEachShare() {
        SurvivorPurse x = Worlds.newborn(3, 1);
        x.buy(2, 0, 0, 1, SHARE, 0);
        x.proof(0);
        x.close(0);
        x.proof(0);
        x.close(6);
        due("owed", x.death(0, 0), 6);
        due("another one's death", x.death(1, 0), 0);
        due("the holder's own", x.death(2, 0), 0);
        due("DEBT", x.of(2, 1), 6);
    }

    /** Kind with 2 years sure from 1 on: 10 and 20 in these, then 40 (paid out) and 80 (held). */
    private static SurvivorPurse sureThenProved(int kind) {
        SurvivorPurse x = Worlds.newborn(2, 1000);
        x.close(0);
        x.buy(1, 0, 0, 1, kind, 2);
        x.close(10);
        x.close(20);
        x.proof(0);
        x.close(40);
        x.close(80);
        return x;
    }

    static void t4YearsSureAreNotOwed() {
        int[][] rows = {{0, 40, 80}, {1, 40, 80}, {2, 40, 80}, {3, 0, 80}, {4, 0, 0}};
        for (int kind = SURE; kind <= BACK; kind++) {
            for (int[] row : rows) {
                SurvivorPurse x = sureThenProved(kind);
                due("owed, dead in " + row[0], x.death(0, row[0]), row[1]);
                due("CARRY, dead in " + row[0], x.told(1), row[2]);
            }
        }
    }

    static void t4DeadInTheYearsSure() {
        for (int kind = SURE; kind <= BACK; kind++) {
            SurvivorPurse x = Worlds.newborn(2, 1000);
            x.buy(1, 0, 0, 1, kind, 3);
            x.close(10);
            x.close(20);
            due("nothing is owed", x.death(0, 0), 0);
            due("it still draws", x.close(40), 40);
            due("and then no more", x.close(80), 0);
            due("DEBT", x.of(1, 1), 0);
        }
    }

    static void t4KnownDeadByRisingNumbers() {
        SurvivorPurse x = Worlds.newborn(3, 1);
        x.buy(2, 0, 1, 1, JOINT, 0);
        x.buy(2, 0, 0, 1, SHARE, 0);
        x.buy(2, 0, 1, 1, JOINT, 0);
        x.proof(0);
        x.close(30);
        x.proof(0);
        x.close(30);
        x.close(30);
        x.death(1, 2);
        due("the SHARE alone is owed", x.death(0, 0), 10);
        due("the one behind it pays the DEBT, the one ahead does not", x.of(2, 1), 0);
        due("CARRY: what the SHARE HELD, and the DEBT", x.told(1), 20);
        due("PURSE: 60 and 10", x.of(2, 0), 70);
    }

    // ---- term 4: BACK

    /** One BACK share of 100 coins on 0, held by 1, with one year sure. */
    private static SurvivorPurse oneBack() {
        SurvivorPurse x = Worlds.newborn(4, 10);
        x.buy(1, 0, 0, 10, BACK, 1);
        return x;
    }

    static void t4BackIsPaidLessDrawnIfThatIsAbove0() {
        int[][] rows = {{0, 100}, {1, 99}, {99, 1}, {100, 0}, {101, 0}, {500, 0}};
        for (int[] row : rows) {
            SurvivorPurse x = oneBack();
            x.heir(0, 2);
            x.death(0, 0);
            due("paid out", x.close(row[0]), row[0]);
            due("BACK where " + row[0] + " was drawn", x.of(2, 0), row[1]);
            due("STOCK", x.about(0, 3), 100 - row[1]);
            due("DRAWN", x.share(0, 7), row[0]);
        }
    }

    static void t4BackGoesWhenTheYearIsOneMore() {
        SurvivorPurse x = Worlds.newborn(2, 10);
        x.buy(1, 0, 0, 10, BACK, 2);
        x.death(0, 0);
        x.close(0);
        due("THE YEAR is 1: one more is sure", x.of(1, 0), 0);
        x.close(0);
        due("THE YEAR is 2: at an END then", x.of(1, 0), 100);
    }

    static void t4BackGoesAtCloseNotAtDeath() {
        SurvivorPurse x = oneBack();
        x.close(0);
        x.close(0);
        x.death(0, 0);
        due("at an END", x.share(0, 11), AT_END);
        due("nothing yet", x.of(1, 0), 0);
        x.close(0);
        due("now", x.of(1, 0), 100);
    }

    static void t4BackDoesNotGoWhileItsLifeIsNotKnownDead() {
        SurvivorPurse x = oneBack();
        for (int year = 0; year < 5; year++) {
            x.close(0);
            due("STOCK", x.about(0, 3), 100);
        }
    }

    static void t4BackGoesOnceForEach() {
        SurvivorPurse x = oneBack();
        x.buy(2, 0, 0, 10, BACK, 1);
        x.death(0, 0);
        x.close(0);
        due("the first", x.of(1, 0), 100);
        due("the second", x.of(2, 0), 100);
        x.buy(3, 3, 0, 1000, SHARE, 0);
        x.close(0);
        due("the first, once", x.of(1, 0), 100);
        due("the second, once", x.of(2, 0), 100);
        due("STOCK that came later", x.about(0, 3), 10000);
    }

    static void t4OnlyOfKindBack() {
        SurvivorPurse x = Worlds.newborn(2, 10);
        x.buy(0, 0, 1, 1, SHARE, 1);
        x.buy(0, 0, 1, 1, JOINT, 1);
        x.buy(0, 0, 1, 1, SURE, 1);
        x.death(0, 0);
        x.death(1, 0);
        x.close(0);
        x.close(0);
        due("STOCK", x.about(0, 3), 30);
        due("PURSES", x.told(4), 0);
    }

    static void t4BackGoesToTheHeirOfItsLife() {
        SurvivorPurse x = oneBack();
        x.heir(0, 2);
        x.heir(1, 3);
        x.death(0, 0);
        x.death(2, 0);
        x.close(0);
        due("a dead HEIR has it too", x.of(2, 0), 100);
        due("the HOLDER", x.of(1, 0), 0);
        due("the HEIR of the HOLDER", x.of(3, 0), 0);
    }

    static void t4BackGoesToItsHolderWhereItsLifeHasNoHeir() {
        SurvivorPurse x = oneBack();
        x.heir(0, 2);
        x.heir(1, 3);
        x.heir(0, -1);
        x.death(0, 0);
        x.close(0);
        due("the HOLDER", x.of(1, 0), 100);
        due("the HEIR of the HOLDER", x.of(3, 0), 0);
        due("who was HEIR", x.of(2, 0), 0);
    }

    static void t4MemberNumber0CanBeTheHeir() {
        SurvivorPurse x = Worlds.newborn(2, 10);
        x.buy(1, 1, 0, 10, BACK, 1);
        x.heir(1, 0);
        x.death(1, 0);
        x.close(0);
        due("0 is no none", x.of(0, 0), 100);
    }

    static void t4BackIsNotPaidOut() {
        SurvivorPurse x = oneBack();
        x.buy(1, 2, 0, 1, SHARE, 0);
        x.proof(2);
        x.close(0);
        x.proof(2);
        x.close(110);
        due("owed", x.death(2, 0), 10);
        due("PURSE so far", x.of(1, 0), 10);
        x.set(1, 1000);
        x.pledge(0, 3, 1000);
        x.death(0, 0);
        x.close(0);
        due("no TAX", x.told(2), 0);
        due("no DEBT is paid", x.of(1, 1), 10);
        due("no pledge is paid", x.of(3, 0), 0);
        due("still pledged", x.share(0, 12), 1000);
        due("all in the PURSE", x.of(1, 0), 110);
        due("DRAWN is as it was", x.share(0, 7), 0);
    }

    static void t4WhatWasHeldAndIsPaidOutCountsAsDrawn() {
        SurvivorPurse x = oneBack();
        x.close(0);
        x.close(30);
        x.close(40);
        due("HELD", x.share(0, 8), 70);
        x.death(0, 1);
        due("DRAWN", x.share(0, 7), 30);
        due("CARRY", x.told(1), 40);
        x.close(0);
        due("30 and BACK of 70", x.of(1, 0), 100);
        due("STOCK", x.about(0, 3), 30);
    }

    static void t4WhatIsOwedStaysDrawn() {
        SurvivorPurse x = oneBack();
        x.close(0);
        x.proof(0);
        x.close(30);
        due("owed", x.death(0, 0), 30);
        x.close(0);
        due("30 and BACK of 70", x.of(1, 0), 100);
        due("STOCK", x.about(0, 3), 30);
        due("DEBT", x.of(1, 1), 30);
    }

    static void t4BackOfAllTakesTheWholeStockAndNoMore() {
        SurvivorPurse x = new SurvivorPurse();
        x.member(0);
        x.member(-50);
        x.group(0, 10, 10);
        x.group(11, 110, 10);
        x.buy(0, 0, 0, 10, BACK, 1);
        x.split(0, 3);
        x.split(0, 3);
        x.buy(1, 1, 0, 10, BACK, 1);
        x.death(0, 0);
        x.close(0);
        due("STOCK of its class", x.about(0, 3), 0);
        due("STOCK of the other", x.about(1, 3), 100);
        due("PURSE", x.of(0, 0), 100);
    }

    static void t4BackInTheLastClose() {
        SurvivorPurse x = Worlds.newborn(2, 10);
        closeYears(x, 59);
        x.buy(1, 0, 0, 10, BACK, 1);
        x.death(0, 59);
        due("close in 59", x.close(3), 3);
        due("THE YEAR is 60, and BACK went", x.of(1, 0), 100);
    }
}
