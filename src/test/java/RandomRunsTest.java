import java.util.Random;

/** Long runs by fixed seeds: the class answers as PlainPurse does, and each coin is always somewhere. */
public final class RandomRunsTest {
    private static final int RUNS = 3000;
    private static final int CALLS = 512;

    private final SurvivorPurse x = new SurvivorPurse();
    private final PlainPurse y = new PlainPurse();
    private final Random dice;
    private final int yields;
    private final StringBuilder told = new StringBuilder();

    private RandomRunsTest(long seed) {
        dice = new Random(seed);
        int[] sizes = {10, 300, 50000, 100000000};
        yields = sizes[dice.nextInt(sizes.length)];
    }

    public static void main(String[] args) {
        for (int run = 0; run < RUNS && Due.wrongSoFar() == 0; run++) {
            RandomRunsTest test = new RandomRunsTest(run);
            test.go();
            if (Due.wrongSoFar() != 0) {
                System.out.println("run " + run + ": " + test.told);
            }
        }
        Due.end();
    }

    private void go() {
        for (int call = 0; call < CALLS && Due.wrongSoFar() == 0; call++) {
            if (call < 12 && dice.nextInt(3) > 0) {
                begin(call);
            } else {
                step(dice.nextInt(100));
            }
            coinsAreSomewhere();
        }
        compareAll();
    }

    private void same(String call, long got, long want) {
        told.append(call).append(" -> ").append(want).append('\n');
        Due.due(call, got, want);
    }

    private int upTo(int most) {
        return dice.nextInt(most + 1);
    }

    private int someMember() {
        return dice.nextInt(60) == 0 ? wild() : dice.nextInt((int) Math.max(1, y.told(8)));
    }

    private int someShare() {
        return dice.nextInt(60) == 0 ? wild() : dice.nextInt((int) Math.max(1, y.told(10)));
    }

    private int wild() {
        int[] odd = {-1, -2, 0, 1, 5, 6, 23, 24, 39, 40, 41, 60, 61, 110, 111, 1000, 1001, 10001, 100000,
            100001, 100000001, 1000000001, Integer.MAX_VALUE, Integer.MIN_VALUE};
        return odd[dice.nextInt(odd.length)];
    }

    private void begin(int call) {
        if (call % 3 == 0) {
            group(upTo(40), 30 + upTo(80), 1 + upTo(dice.nextBoolean() ? 20 : 9999));
        } else {
            member((int) y.told(0) - upTo(90));
        }
    }

    private void step(int die) {
        if (die < 18) {
            proof(someMember());
        } else if (die < 26) {
            close(dice.nextInt(40) == 0 ? wild() : upTo(yields));
        } else if (die < 38) {
            buy();
        } else if (die < 43) {
            split(someShare(), dice.nextInt(20) == 0 ? wild() : 1 + upTo(12));
        } else if (die < 47) {
            int s = someShare();
            int to = someMember();
            int amount = dice.nextInt(20) == 0 ? wild() : upTo(yields);
            same("pledge(" + s + "," + to + "," + amount + ")", x.pledge(s, to, amount), y.pledge(s, to, amount));
        } else if (die < 50) {
            int s = someShare();
            int m = someMember();
            same("sell(" + s + "," + m + ")", x.sell(s, m), y.sell(s, m));
        } else if (die < 53) {
            int m = someMember();
            int year = dice.nextInt(20) == 0 ? wild() : (int) y.told(0) - upTo(4);
            same("death(" + m + "," + year + ")", x.death(m, year), y.death(m, year));
        } else if (die < 56) {
            member(dice.nextInt(20) == 0 ? wild() : (int) y.told(0) - upTo(111));
        } else if (die < 58) {
            int m = someMember();
            int h = dice.nextInt(5) == 0 ? -1 : someMember();
            same("heir(" + m + "," + h + ")", x.heir(m, h), y.heir(m, h));
        } else if (die < 60) {
            int what = upTo(2);
            int v = what == 1 ? upTo(1001) : upTo(6);
            same("set(" + what + "," + v + ")", x.set(what, v), y.set(what, v));
        } else if (die < 62) {
            keepOrBack();
        } else if (die < 63) {
            group(upTo(111), upTo(111), dice.nextInt(9) == 0 ? wild() : 1 + upTo(30));
        } else {
            ask(die);
        }
    }

    private void member(int birth) {
        same("member(" + birth + ")", x.member(birth), y.member(birth));
    }

    private void group(int low, int high, int price) {
        same("group(" + low + "," + high + "," + price + ")", x.group(low, high, price), y.group(low, high, price));
    }

    private void proof(int m) {
        same("proof(" + m + ")", x.proof(m), y.proof(m));
    }

    private void close(int coins) {
        same("close(" + coins + ")", x.close(coins), y.close(coins));
    }

    private void split(int s, int units) {
        same("split(" + s + "," + units + ")", x.split(s, units), y.split(s, units));
    }

    private void buy() {
        int holder = someMember();
        int life = someMember();
        int other = someMember();
        int units = dice.nextInt(20) == 0 ? wild() : 1 + upTo(dice.nextBoolean() ? 9 : 999);
        int kind = dice.nextInt(40) == 0 ? wild() : dice.nextInt(4);
        int years = dice.nextInt(20) == 0 ? upTo(31) : 1 + upTo(5);
        same("buy(" + holder + "," + life + "," + other + "," + units + "," + kind + "," + years + ")",
            x.buy(holder, life, other, units, kind, years), y.buy(holder, life, other, units, kind, years));
    }

    private void keepOrBack() {
        if (dice.nextInt(3) > 0) {
            same("keep()", x.keep(), y.keep());
        } else {
            same("back()", x.back(), y.back());
            compareAll();
        }
    }

    private void ask(int die) {
        if (die < 68) {
            int age = dice.nextInt(9) == 0 ? wild() : upTo(110);
            int n = dice.nextInt(9) == 0 ? wild() : (int) (100000 - 900L * age) + upTo(1800) - 900;
            same("living(" + age + "," + n + ")", x.living(age, n), y.living(age, n));
        } else if (die < 71) {
            int age = upTo(111);
            int years = dice.nextInt(9) == 0 ? wild() : upTo(111);
            same("foretell(" + age + "," + years + ")", x.foretell(age, years), y.foretell(age, years));
        } else if (die < 74) {
            int age = upTo(112) - 1;
            same("mean(" + age + ")", x.mean(age), y.mean(age));
        } else if (die < 77) {
            int k = upTo(7) - 1;
            int q = upTo(7) - 1;
            same("dearer(" + k + "," + q + ")", x.dearer(k, q), y.dearer(k, q));
        } else if (die < 86) {
            int s = someShare();
            int what = upTo(14) - 1;
            same("share(" + s + "," + what + ")", x.share(s, what), y.share(s, what));
        } else if (die < 90) {
            int s = someShare();
            int year = upTo((int) y.told(0) + 1) - 1;
            same("drew(" + s + "," + year + ")", x.drew(s, year), y.drew(s, year));
        } else if (die < 94) {
            int m = someMember();
            int what = upTo(7) - 1;
            same("of(" + m + "," + what + ")", x.of(m, what), y.of(m, what));
        } else if (die < 97) {
            int k = upTo(7) - 1;
            int what = upTo(7) - 1;
            same("about(" + k + "," + what + ")", x.about(k, what), y.about(k, what));
        } else {
            int what = dice.nextInt(4) == 0 ? wild() : upTo(10);
            same("told(" + what + ")", x.told(what), y.told(what));
        }
    }

    private void coinsAreSomewhere() {
        long somewhere = x.told(1) + x.told(2) + x.told(3) + x.told(4) + x.told(5);
        Due.due("CARRY, TAXES, HELD, PURSES and STOCKS together", somewhere, x.told(7));
    }

    private void compareAll() {
        for (int what = -1; what <= 11; what++) {
            same("told(" + what + ")", x.told(what), y.told(what));
        }
        for (int m = 0; m < 24; m++) {
            for (int what = 0; what <= 5; what++) {
                same("of(" + m + "," + what + ")", x.of(m, what), y.of(m, what));
            }
        }
        for (int k = 0; k < 6; k++) {
            for (int what = 0; what <= 5; what++) {
                same("about(" + k + "," + what + ")", x.about(k, what), y.about(k, what));
            }
        }
        for (int s = 0; s < 40; s++) {
            for (int what = 0; what <= 12; what++) {
                same("share(" + s + "," + what + ")", x.share(s, what), y.share(s, what));
            }
            for (int year = 0; year < 60; year++) {
                same("drew(" + s + "," + year + ")", x.drew(s, year), y.drew(s, year));
            }
        }
        for (int age = 0; age <= 110; age++) {
            same("mean(" + age + ")", x.mean(age), y.mean(age));
        }
    }
}
