/** Promises 6 to 9: each sentence that names an edge, by itself. */
public final class EdgesOfMembersTest {
    private static final int MAX = Integer.MAX_VALUE;
    private static final int MIN = Integer.MIN_VALUE;

    private EdgesOfMembersTest() {
    }

    public static void main(String[] args) throws Exception {
        Edges.runAll(EdgesOfMembersTest.class);
    }

    private static void due(String call, long got, long want) {
        Due.due(call, got, want);
    }

    private static SurvivorPurse closed(int years) {
        SurvivorPurse x = new SurvivorPurse();
        for (int year = 0; year < years; year++) {
            x.close(0);
        }
        return x;
    }

    // ---- 6: member

    static void p6BirthAboveTheYear() {
        int[] years = {0, 1, 59, 60};
        for (int year : years) {
            Edges.refused("born a year behind " + year, () -> closed(year), x -> x.member(year + 1));
            Edges.taken("born in " + year, () -> closed(year), x -> x.member(year), 0);
        }
        Edges.refused("member(MAX)", () -> closed(0), x -> x.member(MAX));
        Edges.refused("member(MAX) in 60", () -> closed(60), x -> x.member(MAX));
    }

    static void p6BirthMoreThan110YearsAhead() {
        int[] years = {0, 1, 59, 60};
        for (int year : years) {
            Edges.refused("111 years ahead of " + year, () -> closed(year), x -> x.member(year - 111));
            Edges.taken("110 years ahead of " + year, () -> closed(year), x -> x.member(year - 110), 0);
        }
    }

    static void p6BirthThatWouldWrapAround() {
        Edges.refused("member(MIN)", () -> closed(0), x -> x.member(MIN));
        Edges.refused("member(MIN) in 60", () -> closed(60), x -> x.member(MIN));
        Edges.refused("member(MIN + 60) in 60", () -> closed(60), x -> x.member(MIN + 60));
    }

    static void p6ThereAre24() {
        SurvivorPurse x = new SurvivorPurse();
        for (int m = 0; m < 24; m++) {
            due("member " + m, x.member(-m), m);
        }
        due("the 25th", x.member(0), Due.NO);
        due("there are 24", x.told(8), 24);
        due("the last one is as it was", x.of(23, 2), -23);
        due("the first one is as it was", x.of(0, 2), 0);
        Edges.refused("member(60) where there are 24", Worlds::full, y -> y.member(60));
    }

    static void p6TheDeadAreAmongThe24() {
        SurvivorPurse x = new SurvivorPurse();
        for (int m = 0; m < 24; m++) {
            x.member(0);
        }
        x.death(7, 0);
        due("a dead one leaves no room", x.member(0), Due.NO);
    }

    static void p6ANewMemberHasNothing() {
        SurvivorPurse x = Worlds.busy();
        due("its number", x.member(3), 5);
        long[] wants = {0, 0, 3, 0, Due.NO, -1};
        for (int what = 0; what <= 5; what++) {
            due("of(5, " + what + ")", x.of(5, what), wants[what]);
        }
    }

    // ---- 7: heir

    static void p7MIsNoMember() {
        int[] none = {-1, 5, 24, MIN, MAX};
        for (int m : none) {
            Edges.refused("heir(" + m + ", 0)", Worlds::busy, x -> x.heir(m, 0));
            Edges.refused("heir(" + m + ", -1)", Worlds::busy, x -> x.heir(m, -1));
        }
        Edges.refused("heir(0, -1) without members", SurvivorPurse::new, x -> x.heir(0, -1));
        Edges.refused("heir(-1, -1) without members", SurvivorPurse::new, x -> x.heir(-1, -1));
        Edges.refused("heir(24, 0) of 24", Worlds::full, x -> x.heir(24, 0));
    }

    static void p7HeirIsNoOtherMember() {
        int[] none = {-2, 5, 24, MIN, MAX};
        for (int heir : none) {
            Edges.refused("heir(0, " + heir + ")", Worlds::busy, x -> x.heir(0, heir));
        }
        for (int m = 0; m < 5; m++) {
            int self = m;
            Edges.refused("heir of itself: " + m, Worlds::busy, x -> x.heir(self, self));
        }
        Edges.refused("heir(0, 24) of 24", Worlds::full, x -> x.heir(0, 24));
    }

    static void p7TheFirstAndTheLastCanBeHeirs() {
        SurvivorPurse x = Worlds.full();
        due("the last of the first", x.heir(0, 23), -1);
        due("the first of the last", x.heir(23, 0), -1);
        due("the last stays the heir of the first", x.of(0, 5), 23);
        due("0 is a member, not none", x.of(23, 5), 0);
        due("0 was it", x.heir(23, 1), 0);
    }

    static void p7NoneIsMinus1() {
        SurvivorPurse x = Worlds.newborn(2, 1);
        due("none of one that has none", x.heir(0, -1), -1);
        due("none is still told", x.of(0, 5), -1);
        x.heir(0, 1);
        due("none of one that has one", x.heir(0, -1), 1);
        due("there is none now", x.of(0, 5), -1);
    }

    static void p7TheDeadAreMembers() {
        SurvivorPurse x = Worlds.newborn(2, 1);
        x.death(0, 0);
        due("a dead heir", x.heir(1, 0), -1);
        due("an heir of the dead", x.heir(0, 1), -1);
        due("the same again", x.heir(0, 1), 1);
    }

    // ---- 8: group

    static void p8LowIsNot0To110() {
        int[] lows = {-1, MIN, 111, MAX};
        for (int low : lows) {
            Edges.refused("group(" + low + ", 110, 1)", Worlds::busy, x -> x.group(low, 110, 1));
        }
        Edges.refused("group(111, 111, 1)", Worlds::busy, x -> x.group(111, 111, 1));
        Edges.taken("group(0, 0, 1)", SurvivorPurse::new, x -> x.group(0, 0, 1), 0);
        Edges.taken("group(110, 110, 1)", SurvivorPurse::new, x -> x.group(110, 110, 1), 0);
    }

    static void p8HighIsNot0To110() {
        int[] highs = {-1, MIN, 111, MAX};
        for (int high : highs) {
            Edges.refused("group(0, " + high + ", 1)", Worlds::busy, x -> x.group(0, high, 1));
        }
        Edges.refused("group(-1, -1, 1)", Worlds::busy, x -> x.group(-1, -1, 1));
        Edges.taken("group(0, 110, 1)", SurvivorPurse::new, x -> x.group(0, 110, 1), 0);
    }

    static void p8LowIsAboveHigh() {
        Edges.refused("group(1, 0, 1)", Worlds::busy, x -> x.group(1, 0, 1));
        Edges.refused("group(110, 109, 1)", Worlds::busy, x -> x.group(110, 109, 1));
        Edges.refused("group(110, 0, 1)", Worlds::busy, x -> x.group(110, 0, 1));
        Edges.taken("group(55, 55, 1)", SurvivorPurse::new, x -> x.group(55, 55, 1), 0);
    }

    static void p8PriceIsNot1To10000() {
        int[] prices = {0, -1, MIN, 10001, MAX};
        for (int price : prices) {
            Edges.refused("group(0, 110, " + price + ")", Worlds::busy, x -> x.group(0, 110, price));
        }
        SurvivorPurse x = new SurvivorPurse();
        due("price 1", x.group(0, 110, 1), 0);
        due("price 10000", x.group(0, 110, 10000), 1);
        due("PRICE 1", x.about(0, 2), 1);
        due("PRICE 10000", x.about(1, 2), 10000);
    }

    static void p8ThereAre6() {
        SurvivorPurse x = new SurvivorPurse();
        for (int k = 0; k < 6; k++) {
            due("class " + k, x.group(k, 110 - k, 1 + k), k);
        }
        due("the seventh", x.group(0, 110, 1), Due.NO);
        due("there are 6", x.told(9), 6);
        due("LOW of the last", x.about(5, 0), 5);
        due("HIGH of the last", x.about(5, 1), 105);
        due("PRICE of the last", x.about(5, 2), 6);
        Edges.refused("group(0, 110, 1) where there are 6", Worlds::full, y -> y.group(0, 110, 1));
    }

    // ---- 9: set

    static void p9AnotherWhat() {
        int[] whats = {-1, 2, MIN, MAX};
        for (int what : whats) {
            for (int v = 0; v <= 2; v++) {
                int value = v;
                Edges.refused("set(" + what + ", " + v + ")", Worlds::busy, x -> x.set(what, value));
            }
        }
    }

    static void p9PatienceIsNot1To5() {
        int[] values = {0, -1, MIN, 6, 1000, MAX};
        for (int v : values) {
            Edges.refused("set(0, " + v + ")", Worlds::busy, x -> x.set(0, v));
        }
        SurvivorPurse x = new SurvivorPurse();
        due("PATIENCE 1", x.set(0, 1), 2);
        due("PATIENCE 5", x.set(0, 5), 1);
        due("it is 5", x.set(0, 5), 5);
    }

    static void p9TaxIsNot0To1000() {
        int[] values = {-1, MIN, 1001, MAX};
        for (int v : values) {
            Edges.refused("set(1, " + v + ")", Worlds::busy, x -> x.set(1, v));
        }
        SurvivorPurse x = new SurvivorPurse();
        due("TAX 1000", x.set(1, 1000), 0);
        due("TAX 0", x.set(1, 0), 1000);
        due("it is 0", x.set(1, 0), 0);
    }

    static void p9OneDoesNotChangeTheOther() {
        SurvivorPurse x = new SurvivorPurse();
        x.set(0, 4);
        due("TAX stays", x.set(1, 9), 0);
        due("PATIENCE stays", x.set(0, 4), 4);
    }
}
