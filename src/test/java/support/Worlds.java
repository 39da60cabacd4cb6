/** Objects that several tests begin with. */
final class Worlds {
    private Worlds() {
    }

    /** Members 0 to n - 1, all born in the year 0, and one class of all ages. */
    static SurvivorPurse newborn(int members, int price) {
        SurvivorPurse x = new SurvivorPurse();
        for (int m = 0; m < members; m++) {
            x.member(0);
        }
        x.group(0, 110, price);
        return x;
    }

    /** Class k has the ages from 10 k to 10 k + 9, member k is of that class and buys one unit of 10 coins. */
    static SurvivorPurse stairs(int classes) {
        SurvivorPurse x = new SurvivorPurse();
        for (int k = 0; k < classes; k++) {
            x.member(-10 * k);
            x.group(10 * k, 10 * k + 9, 10);
            x.buy(k, k, 0, 1, 0, 0);
        }
        return x;
    }

    /**
     * THE YEAR 4 with a bit of everything: 5 members (3 is dead, 2 is proved, 0 owes), 3 classes, 6 shares
     * of all kinds, draws held and paid, pledges, a tax, and a state kept in the year 1.
     */
    static SurvivorPurse busy() {
        SurvivorPurse x = new SurvivorPurse();
        int[] births = {-30, -50, -35, -20, 0};
        for (int birth : births) {
            x.member(birth);
        }
        x.group(20, 40, 10);
        x.group(41, 110, 7);
        x.group(0, 110, 3);
        x.set(0, 3);
        x.set(1, 100);
        x.buy(0, 0, 0, 10, 0, 0);
        x.buy(1, 1, 0, 7, 3, 2);
        x.buy(2, 2, 0, 5, 1, 0);
        x.buy(0, 3, 0, 6, 2, 1);
        x.buy(4, 1, 0, 4, 0, 0);
        x.pledge(2, 4, 50);
        x.heir(1, 4);
        x.living(50, 55500);
        x.proof(0);
        x.proof(3);
        x.close(1000);
        x.keep();
        x.proof(3);
        x.close(900);
        x.proof(1);
        x.close(777);
        x.death(3, 0);
        x.close(555);
        x.proof(2);
        x.split(0, 3);
        x.sell(4, 2);
        x.pledge(0, 1, 1000);
        return x;
    }

    /** 24 members, 6 classes, 40 shares, THE YEAR 60: there is no room for one more of any. */
    static SurvivorPurse full() {
        SurvivorPurse x = new SurvivorPurse();
        for (int m = 0; m < 24; m++) {
            x.member(-m);
        }
        for (int k = 0; k < 6; k++) {
            x.group(4 * k, 110, 1 + k);
        }
        for (int s = 0; s < 40; s++) {
            x.buy(s % 24, (s + 1) % 24, (s + 2) % 24, 2 + s, s % 4, 1 + s % 30);
        }
        x.keep();
        for (int year = 0; year < 60; year++) {
            x.close(1000 + year);
        }
        return x;
    }
}
