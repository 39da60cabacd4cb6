/** Each promise of the document by itself: ordinary inputs, the edges that it names, wrong inputs. */
public final class PromisesTest {
    private static final long NO = Due.NO;
    private static final int MAX = Integer.MAX_VALUE;
    private static final int MIN = Integer.MIN_VALUE;

    private PromisesTest() {
    }

    public static void main(String[] args) {
        promise1NewObject();
        promise2Living();
        promise3Foretell();
        promise4Mean();
        promise5Dearer();
        promise6Member();
        promise7Heir();
        promise8Group();
        promise9Set();
        promise10Buy();
        promise10BuyRefused();
        promise10BuyFindsTheClass();
        promise11Sell();
        promise12Split();
        promise12SplitKeepsBackThatWent();
        promise13Pledge();
        promise14Share();
        promise14HowAShareIs();
        promise15Drew();
        promise16Proof();
        promise17Death();
        promise17DeathOfJoint();
        promise17DeathOfSure();
        promise17DeathInOrder();
        promise18CloseParts();
        promise18CloseHandsOn();
        promise18ClosePaysOut();
        promise18CloseGoesByNumbers();
        promise18BackGoes();
        promise18BackGoesOnce();
        promise18CloseEnds();
        promise19Of();
        promise20About();
        promise21Told();
        promise22And23KeepAndBack();
        Due.end();
    }

    private static void due(String call, long got, long want) {
        Due.due(call, got, want);
    }

    private static void promise1NewObject() {
        SurvivorPurse x = new SurvivorPurse();
        for (int what = 0; what <= 10; what++) {
            due("1: told(" + what + ")", x.told(what), 0);
        }
        due("1: nothing is kept", x.back(), NO);
        due("1: PATIENCE", x.set(0, 3), 2);
        due("1: TAX", x.set(1, 7), 0);
        due("1: no member", x.of(0, 0), NO);
        due("1: no class", x.about(0, 0), NO);
        due("1: no share", x.share(0, 0), NO);
        for (int age = 0; age <= 110; age++) {
            due("1: living(" + age + ")", x.living(age, 100000 - 900 * age), 100000 - 900 * age);
        }
    }

    private static void promise2Living() {
        SurvivorPurse x = new SurvivorPurse();
        due("2: age -1", x.living(-1, 100000), NO);
        due("2: age 111", x.living(111, 0), NO);
        due("2: age MIN", x.living(MIN, 0), NO);
        due("2: age MAX", x.living(MAX, 0), NO);
        due("2: n -1", x.living(110, -1), NO);
        due("2: n 100001", x.living(0, 100001), NO);
        due("2: below the next age", x.living(0, 99099), NO);
        due("2: above the age before", x.living(110, 1901), NO);
        due("2: above the age before, in the middle", x.living(50, 55901), NO);
        due("2: below the next age, in the middle", x.living(50, 54099), NO);
        due("2: as the age before", x.living(50, 55900), 55000);
        due("2: as the next age", x.living(50, 54100), 55900);
        due("2: what was set counts", x.living(51, 54101), NO);
        due("2: as the next age, at 0", x.living(0, 99100), 100000);
        due("2: what was set counts at 0", x.living(1, 99101), NO);
        due("2: up again", x.living(0, 100000), 99100);
        due("2: as the age before, at 110", x.living(110, 1900), 1000);
        due("2: none", x.living(110, 0), 1900);
        due("2: refused calls changed nothing", x.living(110, 0), 0);
    }

    private static void promise3Foretell() {
        SurvivorPurse x = new SurvivorPurse();
        due("3: cut", x.foretell(20, 30), 670731);
        due("3: no years", x.foretell(20, 0), 1000000);
        due("3: to 110", x.foretell(0, 110), 10000);
        due("3: above 110", x.foretell(0, 111), 0);
        due("3: far above 110", x.foretell(0, MAX), 0);
        due("3: far above 110 from there", x.foretell(110, MAX), 0);
        due("3: age -1", x.foretell(-1, 1), NO);
        due("3: age 111", x.foretell(111, 0), NO);
        due("3: years -1", x.foretell(5, -1), NO);
        due("3: years MIN", x.foretell(5, MIN), NO);
        x.living(110, 0);
        due("3: none later", x.foretell(100, 10), 0);
        due("3: none at that age", x.foretell(110, 0), 0);
    }

    private static void promise4Mean() {
        SurvivorPurse x = new SurvivorPurse();
        due("4: mean(100)", x.mean(100), 5050);
        due("4: cut", x.mean(108), 1035);
        due("4: none later", x.mean(110), 0);
        due("4: age -1", x.mean(-1), NO);
        due("4: age 111", x.mean(111), NO);
        due("4: mean(0)", x.mean(0), 55055);
        x.living(110, 0);
        x.living(109, 0);
        due("4: none at that age", x.mean(109), 0);
        due("4: none at 110", x.mean(110), 0);
        due("4: none behind", x.mean(108), 0);
    }

    private static void promise5Dearer() {
        SurvivorPurse x = new SurvivorPurse();
        x.group(108, 110, 551);
        x.group(109, 109, 280);
        x.group(108, 108, 552);
        x.group(110, 110, 1);
        x.group(110, 110, 10000);
        due("5: as great, not cut", x.dearer(0, 1), 0);
        due("5: greater", x.dearer(2, 1), 1);
        due("5: less", x.dearer(1, 2), -1);
        due("5: with itself", x.dearer(2, 2), 0);
        due("5: nothing foretold", x.dearer(3, 2), 1);
        due("5: nothing foretold, the other way", x.dearer(2, 3), -1);
        due("5: nothing foretold for both", x.dearer(3, 4), 0);
        due("5: nothing foretold for both, the other way", x.dearer(4, 3), 0);
        due("5: no class k", x.dearer(5, 0), NO);
        due("5: no class q", x.dearer(0, 5), NO);
        due("5: -1", x.dearer(-1, 0), NO);
        due("5: MIN, MAX", x.dearer(MIN, MAX), NO);
        x.group(0, 0, 10000);
        due("5: great numbers", x.dearer(5, 2), -1);
        due("5: great numbers, price 10000 by 55.055", x.dearer(5, 1), -1);
        x.living(110, 0);
        due("5: the table counts", x.dearer(1, 0), 1);
    }

    private static void promise6Member() {
        SurvivorPurse x = new SurvivorPurse();
        due("6: born this year", x.member(0), 0);
        due("6: not yet born", x.member(1), NO);
        due("6: 110 years ago", x.member(-110), 1);
        due("6: 111 years ago", x.member(-111), NO);
        due("6: MIN", x.member(MIN), NO);
        due("6: MAX", x.member(MAX), NO);
        x.close(0);
        due("6: a year on", x.member(1), 2);
        due("6: a year on, 110 years ago", x.member(-109), 3);
        due("6: a year on, 111 years ago", x.member(-110), NO);
        for (int m = 4; m < 24; m++) {
            due("6: member " + m, x.member(0), m);
        }
        due("6: the 25th", x.member(0), NO);
        due("6: members", x.told(8), 24);
        due("6: PURSE", x.of(2, 0), 0);
        due("6: DEBT", x.of(2, 1), 0);
        due("6: BIRTH", x.of(2, 2), 1);
        due("6: not PROVED", x.of(2, 3), 0);
        due("6: not dead", x.of(2, 4), NO);
        due("6: no HEIR", x.of(2, 5), -1);
    }

    private static void promise7Heir() {
        SurvivorPurse x = Worlds.newborn(3, 1);
        due("7: first", x.heir(0, 1), -1);
        due("7: another", x.heir(0, 2), 1);
        due("7: itself", x.heir(0, 0), NO);
        due("7: no member as heir", x.heir(0, 3), NO);
        due("7: -2", x.heir(0, -2), NO);
        due("7: no member", x.heir(3, 0), NO);
        due("7: member -1", x.heir(-1, -1), NO);
        due("7: refused calls changed nothing", x.of(0, 5), 2);
        due("7: none", x.heir(0, -1), 2);
        due("7: none again", x.heir(0, -1), -1);
        due("7: it is none", x.of(0, 5), -1);
    }

    private static void promise8Group() {
        SurvivorPurse x = new SurvivorPurse();
        due("8: low -1", x.group(-1, 5, 1), NO);
        due("8: low 111", x.group(111, 111, 1), NO);
        due("8: high 111", x.group(5, 111, 1), NO);
        due("8: high -1", x.group(0, -1, 1), NO);
        due("8: low above high", x.group(6, 5, 1), NO);
        due("8: price 0", x.group(0, 5, 0), NO);
        due("8: price 10001", x.group(0, 5, 10001), NO);
        due("8: one age", x.group(5, 5, 1), 0);
        due("8: all ages", x.group(0, 110, 10000), 1);
        due("8: LOW", x.about(1, 0), 0);
        due("8: HIGH", x.about(1, 1), 110);
        due("8: PRICE", x.about(1, 2), 10000);
        due("8: STOCK", x.about(1, 3), 0);
        for (int k = 2; k < 6; k++) {
            due("8: class " + k, x.group(k, k, k), k);
        }
        due("8: the seventh", x.group(0, 1, 1), NO);
        due("8: classes", x.told(9), 6);
    }

    private static void promise9Set() {
        SurvivorPurse x = new SurvivorPurse();
        due("9: PATIENCE 0", x.set(0, 0), NO);
        due("9: PATIENCE 6", x.set(0, 6), NO);
        due("9: PATIENCE 1", x.set(0, 1), 2);
        due("9: PATIENCE 5", x.set(0, 5), 1);
        due("9: PATIENCE 5 again", x.set(0, 5), 5);
        due("9: TAX -1", x.set(1, -1), NO);
        due("9: TAX 1001", x.set(1, 1001), NO);
        due("9: TAX 1000", x.set(1, 1000), 0);
        due("9: TAX 0", x.set(1, 0), 1000);
        due("9: what 2", x.set(2, 1), NO);
        due("9: what -1", x.set(-1, 1), NO);
    }

    private static void promise10Buy() {
        SurvivorPurse x = Worlds.newborn(3, 9);
        x.close(0);
        due("10: SHARE", x.buy(0, 1, MAX, 1000, 0, MIN), 0);
        due("10: JOINT", x.buy(1, 2, 0, 1, 1, -1), 1);
        due("10: SURE", x.buy(2, 0, -7, 2, 2, 1), 2);
        due("10: BACK", x.buy(2, 0, 0, 3, 3, 30), 3);
        due("10: PAID", x.share(0, 6), 9000);
        due("10: STOCK", x.about(0, 3), 9000 + 9 + 18 + 27);
        due("10: paid ever", x.told(7), 9054);
        due("10: other life of SHARE", x.share(0, 2), -1);
        due("10: other life of JOINT", x.share(1, 2), 0);
        due("10: other life of BACK", x.share(3, 2), -1);
        due("10: SINCE", x.share(3, 9), 1);
        due("10: purses pay nothing", x.told(4), 0);
        x.death(1, 1);
        due("10: a dead holder", x.buy(1, 0, 0, 1, 0, 0), 4);
        for (int s = 5; s < 40; s++) {
            due("10: share " + s, x.buy(0, 0, 0, 1, 0, 0), s);
        }
        due("10: the 41st", x.buy(0, 0, 0, 1, 0, 0), NO);
        due("10: shares", x.told(10), 40);
        due("10: shares of the class", x.about(0, 5), 40);
    }

    private static void promise10BuyRefused() {
        SurvivorPurse x = Worlds.newborn(3, 9);
        x.death(2, 0);
        due("10: no holder", x.buy(3, 0, 0, 1, 0, 0), NO);
        due("10: holder -1", x.buy(-1, 0, 0, 1, 0, 0), NO);
        due("10: no life", x.buy(0, 3, 0, 1, 0, 0), NO);
        due("10: life -1", x.buy(0, -1, 0, 1, 0, 0), NO);
        due("10: JOINT without other", x.buy(0, 0, 3, 1, 1, 0), NO);
        due("10: JOINT other -1", x.buy(0, 0, -1, 1, 1, 0), NO);
        due("10: JOINT lives the same", x.buy(0, 1, 1, 1, 1, 0), NO);
        due("10: dead life", x.buy(0, 2, 0, 1, 0, 0), NO);
        due("10: dead other life", x.buy(0, 0, 2, 1, 1, 0), NO);
        due("10: dead first life of two", x.buy(0, 2, 0, 1, 1, 0), NO);
        due("10: KIND -1", x.buy(0, 0, 1, 1, -1, 1), NO);
        due("10: KIND 4", x.buy(0, 0, 1, 1, 4, 1), NO);
        due("10: units 0", x.buy(0, 0, 0, 0, 0, 0), NO);
        due("10: units 1001", x.buy(0, 0, 0, 1001, 0, 0), NO);
        due("10: SURE years 0", x.buy(0, 0, 0, 1, 2, 0), NO);
        due("10: SURE years 31", x.buy(0, 0, 0, 1, 2, 31), NO);
        due("10: BACK years 0", x.buy(0, 0, 0, 1, 3, 0), NO);
        due("10: BACK years 31", x.buy(0, 0, 0, 1, 3, 31), NO);
        due("10: no shares", x.told(10), 0);
        due("10: nothing paid", x.told(7), 0);
        due("10: a dead other counts for no other KIND", x.buy(0, 0, 2, 1, 0, 0), 0);
    }

    private static void promise10BuyFindsTheClass() {
        SurvivorPurse x = new SurvivorPurse();
        x.member(-30);
        x.member(-31);
        x.member(-50);
        x.member(-110);
        x.group(31, 50, 2);
        x.group(30, 60, 3);
        x.group(30, 30, 4);
        x.buy(0, 0, 0, 1, 0, 0);
        due("10: the first with LOW", x.share(0, 4), 1);
        x.buy(0, 1, 0, 1, 0, 0);
        due("10: the first of two", x.share(1, 4), 0);
        x.buy(0, 2, 0, 1, 0, 0);
        due("10: HIGH", x.share(2, 4), 0);
        x.buy(0, 2, 0, 1, 1, 0);
        due("10: the younger one is the other", x.share(3, 4), 1);
        x.buy(0, 0, 2, 1, 1, 0);
        due("10: the younger one is the life", x.share(4, 4), 1);
        due("10: no class of that age", x.buy(0, 3, 0, 1, 0, 0), NO);
        due("10: JOINT with an age that has none", x.buy(0, 3, 2, 1, 1, 0), 5);
        x.close(0);
        due("10: a year on, out of the class", x.share(2, 4), 0);
        x.buy(0, 2, 0, 1, 0, 0);
        due("10: a year on, the age is 51", x.share(6, 4), 1);
        x.group(0, 110, 1);
        due("10: the age is 111", x.buy(0, 3, 0, 1, 0, 0), NO);
    }

    private static void promise11Sell() {
        SurvivorPurse x = Worlds.newborn(3, 5);
        x.buy(0, 0, 0, 1, 0, 0);
        due("11: sell", x.sell(0, 1), 0);
        due("11: to its holder", x.sell(0, 1), 1);
        due("11: no share", x.sell(1, 1), NO);
        due("11: share -1", x.sell(-1, 1), NO);
        due("11: no member", x.sell(0, 3), NO);
        due("11: member -1", x.sell(0, -1), NO);
        due("11: HOLDER", x.share(0, 0), 1);
        due("11: the life stays", x.share(0, 1), 0);
        x.proof(0);
        x.close(8);
        due("11: the new holder's purse", x.of(1, 0), 8);
        x.proof(0);
        x.close(8);
        x.sell(0, 2);
        due("11: what became a DEBT", x.death(0, 0), 8);
        due("11: the DEBT is of who holds it then", x.of(2, 1), 8);
        due("11: not of who drew", x.of(1, 1), 0);
    }

    private static void promise12Split() {
        SurvivorPurse x = Worlds.newborn(2, 9);
        x.buy(0, 0, 0, 7, 0, 0);
        x.proof(0);
        x.close(100);
        x.close(55);
        x.close(34);
        x.pledge(0, 1, 10);
        due("12: units 0", x.split(0, 0), NO);
        due("12: units -1", x.split(0, -1), NO);
        due("12: all units", x.split(0, 7), NO);
        due("12: no share", x.split(1, 1), NO);
        due("12: share -1", x.split(-1, 1), NO);
        due("12: split", x.split(0, 3), 1);
        long[] old = {0, 0, -1, 4, 0, 0, 36, 58, 52, 0, 2, 2, 6};
        long[] fresh = {0, 0, -1, 3, 0, 0, 27, 42, 37, 0, 2, 2, 4};
        for (int what = 0; what <= 12; what++) {
            due("12: old, " + what, x.share(0, what), old[what]);
            due("12: new, " + what, x.share(1, what), fresh[what]);
        }
        long[] oldDrew = {58, 32, 20};
        long[] freshDrew = {42, 23, 14};
        for (int year = 0; year < 3; year++) {
            due("12: old drew " + year, x.drew(0, year), oldDrew[year]);
            due("12: new drew " + year, x.drew(1, year), freshDrew[year]);
        }
        due("12: STOCK is as it was", x.about(0, 3), 63);
        due("12: held of both", x.told(3), 89);
        due("12: all paid out", x.proof(0), 89);
        due("12: both were pledged to the same", x.of(1, 0), 10);
        due("12: old DRAWN", x.share(0, 7), 110);
        due("12: new DRAWN", x.share(1, 7), 79);
        due("12: all above the end is owed", x.death(0, 0), 89);
        x.buy(0, 1, 0, 1000, 0, 0);
        for (int s = 3; s < 40; s++) {
            due("12: one less than its UNITS, or one", x.split(2, s == 3 ? 500 : 1), s);
        }
        due("12: there are 40", x.split(2, 1), NO);
    }

    private static void promise12SplitKeepsBackThatWent() {
        SurvivorPurse x = Worlds.newborn(1, 10);
        x.buy(0, 0, 0, 10, 3, 1);
        x.split(0, 4);
        x.death(0, 0);
        x.close(40);
        due("12: BACK went for both", x.about(0, 3), 40);
        due("12: to the holder", x.of(0, 0), 100);
        due("12: split behind that", x.split(0, 3), 2);
        due("12: PAID of the new one", x.share(2, 6), 30);
        x.close(0);
        due("12: BACK does not go again", x.about(0, 3), 40);
        due("12: the purse is as it was", x.of(0, 0), 100);
    }

    private static void promise13Pledge() {
        SurvivorPurse x = Worlds.newborn(3, 5);
        x.buy(0, 0, 0, 1, 0, 0);
        due("13: first", x.pledge(0, 1, 1000000000), 0);
        due("13: too much", x.pledge(0, 1, 1000000001), NO);
        due("13: amount -1", x.pledge(0, 1, -1), NO);
        due("13: no share", x.pledge(1, 1, 1), NO);
        due("13: share -1", x.pledge(-1, 1, 1), NO);
        due("13: no member", x.pledge(0, 3, 1), NO);
        due("13: member -1", x.pledge(0, -1, 1), NO);
        due("13: again", x.pledge(0, 1, 30), 1000000000);
        x.proof(0);
        x.close(20);
        due("13: the pledge is less", x.share(0, 12), 10);
        due("13: it came to the pledged one", x.of(1, 0), 20);
        due("13: what was still pledged", x.pledge(0, 2, 5), 10);
        x.proof(0);
        x.close(20);
        due("13: the new one", x.of(2, 0), 5);
        due("13: the old one gets no more", x.of(1, 0), 20);
        due("13: the rest to the holder", x.of(0, 0), 15);
        x.pledge(0, 2, 100);
        due("13: pledged for nothing", x.pledge(0, 1, 0), 100);
        x.sell(0, 2);
        x.pledge(0, 0, 3);
        x.proof(0);
        x.close(4);
        due("13: a pledge to whom it was, sold to another", x.of(0, 0), 18);
        due("13: the rest to the new holder", x.of(2, 0), 6);
    }

    private static void promise14Share() {
        SurvivorPurse x = Worlds.newborn(4, 6);
        x.group(0, 110, 7);
        x.close(0);
        x.buy(3, 1, 2, 5, 1, 9);
        x.pledge(0, 0, 77);
        x.close(13);
        long[] wants = {3, 1, 2, 5, 0, 1, 30, 0, 13, 1, 1, 1, 77};
        for (int what = 0; what <= 12; what++) {
            due("14: share(0, " + what + ")", x.share(0, what), wants[what]);
        }
        due("14: what 13", x.share(0, 13), NO);
        due("14: what -1", x.share(0, -1), NO);
        due("14: what MIN", x.share(0, MIN), NO);
        due("14: no share", x.share(1, 0), NO);
        due("14: share -1", x.share(-1, 0), NO);
    }

    private static void promise14HowAShareIs() {
        SurvivorPurse x = Worlds.newborn(2, 6);
        x.proof(0);
        x.buy(0, 0, 0, 1, 0, 0);
        x.buy(0, 0, 1, 1, 1, 0);
        x.buy(0, 1, 0, 1, 2, 2);
        due("14: bought for one who is PROVED", x.share(0, 11), 0);
        due("14: one life of two is PROVED", x.share(1, 11), 0);
        due("14: sure without proof", x.share(2, 11), 0);
        x.close(0);
        due("14: nobody is PROVED any more", x.share(0, 11), 1);
        due("14: UNPROVED 0, it was LIVE", x.share(0, 10), 0);
        x.close(0);
        due("14: UNPROVED 1", x.share(0, 10), 1);
        due("14: it WAITS", x.share(0, 11), 1);
        due("14: no longer sure", x.share(2, 11), 1);
        due("14: UNPROVED counts no sure year", x.share(2, 10), 0);
        x.close(0);
        due("14: LOST", x.share(0, 11), 2);
        due("14: UNPROVED 2", x.share(0, 10), 2);
        x.close(0);
        due("14: UNPROVED grows on", x.share(0, 10), 3);
        x.set(0, 4);
        due("14: PATIENCE counts at once", x.share(0, 11), 1);
        x.set(0, 3);
        due("14: UNPROVED not below PATIENCE", x.share(0, 11), 2);
        x.proof(1);
        due("14: the other life of two", x.share(1, 11), 0);
        due("14: UNPROVED is 0 again", x.share(1, 10), 0);
        due("14: not of others", x.share(0, 10), 3);
        x.death(1, 3);
        due("14: not PROVED any more", x.share(1, 11), 1);
        due("14: its only life is dead", x.share(2, 11), 3);
        x.death(0, 4);
        due("14: both lives are dead", x.share(1, 11), 3);
        due("14: UNPROVED stays till a year is closed", x.share(0, 10), 3);
        x.close(0);
        due("14: a year closed at an END", x.share(0, 10), 0);
    }

    private static void promise15Drew() {
        SurvivorPurse x = Worlds.newborn(2, 6);
        x.buy(0, 0, 0, 1, 0, 0);
        due("15: no year is closed", x.drew(0, 0), NO);
        x.proof(0);
        x.close(10);
        x.close(20);
        x.buy(1, 1, 0, 1, 0, 0);
        due("15: PAID OUT", x.drew(0, 0), 10);
        due("15: HELD", x.drew(0, 1), 20);
        due("15: THE YEAR", x.drew(0, 2), NO);
        due("15: year -1", x.drew(0, -1), NO);
        due("15: year MAX", x.drew(0, MAX), NO);
        due("15: before it was bought", x.drew(1, 1), 0);
        due("15: no share", x.drew(2, 0), NO);
        due("15: share -1", x.drew(-1, 0), NO);
        x.proof(0);
        due("15: PAID OUT later", x.drew(0, 1), 20);
        x.close(31);
        due("15: LIVE", x.drew(0, 2), 15);
        due("15: it WAITS", x.drew(1, 2), 15);
        x.death(0, 0);
        due("15: owed, but drawn", x.drew(0, 1), 20);
        x.death(1, 1);
        due("15: what went to CARRY", x.drew(1, 2), 0);
    }

    private static void promise16Proof() {
        SurvivorPurse x = Worlds.newborn(3, 6);
        x.buy(0, 0, 0, 3, 0, 0);
        x.buy(1, 1, 0, 2, 1, 0);
        x.buy(2, 2, 0, 1, 0, 0);
        x.set(1, 150);
        x.close(60);
        x.close(13);
        due("16: no member", x.proof(3), NO);
        due("16: member -1", x.proof(-1), NO);
        due("16: HELD", x.share(0, 8), 36);
        due("16: paid out of what was held", x.proof(0), 60);
        due("16: once", x.proof(0), NO);
        due("16: PROVED", x.of(0, 3), 1);
        due("16: tax of one amount, cut", x.told(2), 5 + 3);
        due("16: the holder's purse", x.of(0, 0), 31);
        due("16: the purse of the joint one's holder", x.of(1, 0), 21);
        due("16: nothing HELD", x.share(1, 8), 0);
        due("16: DRAWN", x.share(1, 7), 24);
        due("16: UNPROVED of the joint one", x.share(1, 10), 0);
        due("16: UNPROVED of another", x.share(2, 10), 2);
        due("16: HELD of another", x.share(2, 8), 12);
        due("16: the other life has nothing left", x.proof(1), 0);
        x.death(1, 2);
        due("16: dead", x.proof(1), NO);
        x.close(0);
        due("16: a year on", x.proof(0), 0);
        due("16: LOST comes back", x.proof(2), 12);
        due("16: LIVE again", x.share(2, 11), 0);
    }

    private static void promise17Death() {
        SurvivorPurse x = Worlds.newborn(2, 6);
        x.close(0);
        x.member(1);
        x.buy(1, 0, 0, 1, 0, 0);
        x.proof(0);
        x.close(10);
        x.proof(0);
        x.close(20);
        x.set(0, 5);
        x.close(40);
        x.close(80);
        due("17: no member", x.death(3, 1), NO);
        due("17: member -1", x.death(-1, 1), NO);
        due("17: ahead of its BIRTH", x.death(2, 0), NO);
        due("17: above THE YEAR", x.death(0, 6), NO);
        x.keep();
        due("17: in THE YEAR", x.death(0, 5), 0);
        due("17: all HELD is paid out", x.of(1, 0), 150);
        due("17: nothing to CARRY", x.told(1), 0);
        x.back();
        due("17: in its BIRTH", x.death(0, 0), 30);
        due("17: all HELD to CARRY", x.told(1), 120);
        due("17: DEBT of the holder", x.of(1, 1), 30);
        due("17: DRAWN is as it was", x.share(0, 7), 30);
        x.back();
        due("17: behind a year that was paid", x.death(0, 1), 20);
        x.back();
        due("17: behind the first that was held", x.death(0, 3), 0);
        due("17: HELD above to CARRY", x.told(1), 80);
        due("17: HELD below is paid out", x.of(1, 0), 70);
        due("17: DEATH", x.of(0, 4), 3);
        due("17: dead", x.death(0, 3), NO);
        due("17: nothing is HELD", x.told(3), 0);
        x.back();
        x.proof(0);
        due("17: a proof behind the death", x.death(0, 2), 120);
        due("17: not PROVED any more", x.of(0, 3), 0);
    }

    private static void promise17DeathOfJoint() {
        SurvivorPurse x = Worlds.newborn(3, 6);
        x.buy(2, 0, 1, 1, 1, 0);
        x.proof(0);
        x.close(10);
        x.proof(1);
        x.close(20);
        x.close(40);
        due("17: the other one lives", x.death(0, 0), 0);
        due("17: still HELD", x.told(3), 40);
        x.keep();
        due("17: the latest DEATH is the second", x.death(1, 1), 0);
        due("17: HELD above it", x.told(1), 40);
        x.back();
        due("17: the latest DEATH is the first", x.death(1, 0), 20);
        x.back();
        due("17: HELD is not above it", x.death(1, 2), 0);
        due("17: it is paid out", x.of(2, 0), 70);
        x.back();
        due("17: another one's shares are not settled", x.death(2, 0), 0);
    }

    private static void promise17DeathOfSure() {
        for (int kind = 2; kind <= 3; kind++) {
            SurvivorPurse x = Worlds.newborn(2, 1000);
            x.close(0);
            x.buy(1, 0, 0, 1, kind, 2);
            x.close(10);
            x.close(20);
            due("17: not sure any more", x.share(0, 11), 1);
            x.proof(0);
            x.close(40);
            x.close(80);
            due("17: only behind the years sure", x.death(0, 0), 40);
            due("17: DEBT", x.of(1, 1), 40);
            due("17: HELD behind the years sure", x.told(1), 80);
            due("17: at an END", x.share(0, 11), 3);
        }
    }

    private static void promise17DeathInOrder() {
        for (int first = 0; first <= 1; first++) {
            SurvivorPurse x = Worlds.newborn(3, 6);
            x.buy(2, 0, 1, 1, first, 0);
            x.buy(2, 0, 1, 1, 1 - first, 0);
            x.proof(0);
            x.close(20);
            x.proof(0);
            x.close(20);
            x.close(20);
            x.death(1, 2);
            due("17: one share is owed", x.death(0, 0), 10);
            due("17: HELD of one to CARRY, and DEBT paid by a later share", x.told(1), first == 0 ? 20 : 10);
            due("17: DEBT left", x.of(2, 1), first == 0 ? 0 : 10);
            due("17: the purse", x.of(2, 0), first == 0 ? 40 : 50);
        }
    }

    private static void promise18CloseParts() {
        SurvivorPurse x = new SurvivorPurse();
        due("18: nothing there", x.close(5), 0);
        due("18: to CARRY", x.told(1), 5);
        x.member(-10);
        x.member(-60);
        x.group(0, 20, 3);
        x.group(21, 110, 4);
        x.close(0);
        due("18: no STOCKS", x.told(1), 5);
        x.buy(0, 0, 0, 2, 0, 0);
        x.buy(0, 0, 0, 1, 0, 0);
        x.buy(1, 1, 0, 2, 0, 0);
        x.proof(0);
        x.proof(1);
        due("18: yield -1", x.close(-1), NO);
        due("18: too great a yield", x.close(100000001), NO);
        due("18: parts by STOCK, draws by UNITS", x.close(45), 48);
        due("18: first", x.share(0, 7), 17);
        due("18: second", x.share(1, 7), 8);
        due("18: third", x.share(2, 7), 23);
        due("18: CARRY", x.told(1), 2);
        due("18: THE YEAR", x.told(0), 3);
        due("18: nobody is PROVED", x.of(0, 3), 0);
        x.proof(1);
        due("18: only what a LIVE one draws", x.close(98), 47);
        due("18: HELD", x.told(3), 34 + 17);
        due("18: the greatest yield", x.close(100000000), 0);
        due("18: yielded ever", x.told(7), 17 + 5 + 45 + 98 + 100000000);
    }

    private static void promise18CloseHandsOn() {
        SurvivorPurse x = new SurvivorPurse();
        for (int k = 0; k < 5; k++) {
            x.member(-10 * k);
            x.group(10 * k, 10 * k, 10);
        }
        x.set(0, 1);
        for (int m = 0; m < 4; m++) {
            x.buy(m, m, 0, 1, 0, 0);
        }
        x.proof(2);
        x.close(0);
        due("18: LOST", x.share(0, 11), 2);
        due("18: the one that was proved WAITS", x.share(2, 11), 1);
        x.close(400);
        due("18: two PARTS go on", x.share(2, 8), 300);
        due("18: behind the last one to CARRY", x.told(1), 100);
        x.proof(1);
        x.proof(3);
        x.death(0, 0);
        x.close(300);
        due("18: at an END", x.share(1, 7), 200);
        due("18: LOST too", x.share(3, 7), 200);
        due("18: drew no more", x.drew(2, 2), 0);
        due("18: nothing is left", x.told(1), 0);
    }

    private static void promise18ClosePaysOut() {
        SurvivorPurse x = Worlds.newborn(4, 6);
        x.buy(0, 1, 0, 1, 0, 0);
        x.buy(0, 0, 0, 1, 0, 0);
        x.proof(0);
        x.proof(1);
        x.close(100);
        x.proof(0);
        x.proof(1);
        x.close(62);
        due("18: DEBT", x.death(1, 0), 31);
        due("18: the PURSE so far", x.of(0, 0), 162);
        x.set(1, 99);
        x.pledge(1, 3, 25);
        x.proof(0);
        due("18: the whole amount", x.close(90), 90);
        due("18: TAXES, cut", x.told(2), 8);
        due("18: the DEBT is paid", x.of(0, 1), 0);
        due("18: to CARRY", x.told(1), 31);
        due("18: to whom it is PLEDGED", x.of(3, 0), 25);
        due("18: still pledged", x.share(1, 12), 0);
        due("18: the rest", x.of(0, 0), 162 + 26);
        due("18: the whole amount is DRAWN", x.share(1, 7), 50 + 31 + 90);
        x.set(1, 1000);
        x.proof(0);
        due("18: CARRY and the yield", x.close(9), 40);
        due("18: all is TAX", x.told(2), 8 + 40);
    }

    private static void promise18CloseGoesByNumbers() {
        SurvivorPurse x = new SurvivorPurse();
        x.member(-60);
        x.member(-10);
        x.member(0);
        x.group(0, 20, 1);
        x.group(50, 70, 1);
        for (int m = 0; m < 3; m++) {
            x.buy(2, m, 0, 10, 0, 0);
        }
        for (int year = 0; year < 2; year++) {
            for (int m = 0; m < 3; m++) {
                x.proof(m);
            }
            x.close(60);
        }
        due("18: DEBT", x.death(2, 0), 20);
        x.pledge(0, 0, 15);
        x.pledge(1, 1, 15);
        x.proof(0);
        x.proof(1);
        due("18: paid out", x.close(30), 30);
        due("18: the lower number pays the DEBT first, whatever its class", x.of(0, 0), 0);
        due("18: its pledge stands", x.share(0, 12), 15);
        due("18: the other one pays the rest of it, then its pledge", x.of(1, 0), 10);
        due("18: DEBT left", x.of(2, 1), 0);
        due("18: to CARRY", x.told(1), 20);
    }

    private static void promise18BackGoes() {
        SurvivorPurse x = Worlds.newborn(4, 10);
        x.buy(1, 0, 0, 10, 3, 2);
        x.buy(1, 0, 0, 10, 2, 2);
        x.buy(1, 2, 0, 10, 3, 1);
        x.heir(0, 3);
        x.heir(1, 2);
        x.set(1, 500);
        x.death(0, 0);
        x.close(90);
        due("18: not yet at an END", x.about(0, 3), 300);
        x.close(60);
        due("18: THE YEAR is one more, then BACK goes", x.about(0, 3), 250);
        due("18: to the HEIR of its life, without tax", x.of(3, 0), 50);
        due("18: what was drawn in the last year counts", x.share(0, 7), 50);
        x.close(0);
        due("18: once", x.about(0, 3), 250);
        x.death(2, 1);
        long purse = x.of(1, 0);
        x.close(0);
        due("18: to the HOLDER, not its heir", x.of(1, 0) - purse, 50);
        due("18: of the other BACK", x.about(0, 3), 200);
        SurvivorPurse y = Worlds.newborn(2, 1);
        y.buy(1, 0, 0, 10, 3, 1);
        y.death(0, 0);
        due("18: drawn more than PAID", y.close(11), 11);
        due("18: nothing goes", y.about(0, 3), 10);
    }

    private static void promise18BackGoesOnce() {
        SurvivorPurse x = Worlds.newborn(3, 10);
        x.buy(1, 0, 0, 5, 3, 1);
        x.buy(2, 0, 0, 5, 3, 1);
        x.death(0, 0);
        x.close(0);
        due("18: STOCK is empty", x.about(0, 3), 0);
        due("18: first", x.of(1, 0), 50);
        due("18: second", x.of(2, 0), 50);
        x.buy(1, 1, 0, 4, 0, 0);
        x.close(7);
        due("18: once for each, though STOCK is filled again", x.about(0, 3), 40);
        due("18: those at an END draw nothing", x.share(2, 8), 7);
    }

    private static void promise18CloseEnds() {
        SurvivorPurse x = Worlds.newborn(1, 10000);
        x.set(0, 5);
        for (int s = 0; s < 40; s++) {
            x.buy(0, 0, 0, 1000, 0, 0);
        }
        for (int year = 0; year < 60; year++) {
            due("18: close in " + year, x.close(100000000), 0);
        }
        due("18: THE YEAR is 60", x.close(0), NO);
        due("18: it stays 60", x.told(0), 60);
        due("18: the latest year", x.drew(39, 59), 0);
        due("18: the fifth year", x.drew(39, 4), 2500000);
        due("18: the year that is not closed", x.drew(39, 60), NO);
        due("18: CARRY", x.told(1), 5500000000L);
        due("18: born in 60", x.member(60), 1);
        due("18: all that was held", x.proof(0), 500000000);
    }

    private static void promise19Of() {
        SurvivorPurse x = new SurvivorPurse();
        x.member(-5);
        x.member(-6);
        x.heir(0, 1);
        x.proof(0);
        long[] wants = {0, 0, -5, 1, NO, 1};
        for (int what = 0; what <= 5; what++) {
            due("19: of(0, " + what + ")", x.of(0, what), wants[what]);
        }
        due("19: what 6", x.of(0, 6), NO);
        due("19: what -1", x.of(0, -1), NO);
        due("19: no member", x.of(2, 0), NO);
        due("19: member -1", x.of(-1, 0), NO);
        x.death(0, -5);
        due("19: DEATH", x.of(0, 4), -5);
        due("19: not PROVED", x.of(0, 3), 0);
    }

    private static void promise20About() {
        SurvivorPurse x = new SurvivorPurse();
        x.member(-5);
        x.member(-6);
        x.group(5, 6, 7);
        x.group(6, 8, 9);
        x.buy(0, 0, 0, 3, 0, 0);
        x.buy(0, 1, 0, 4, 0, 0);
        x.buy(0, 1, 0, 5, 2, 9);
        x.split(0, 1);
        x.set(0, 1);
        long[] wants = {5, 6, 7, 84, 12, 4};
        for (int what = 0; what <= 5; what++) {
            due("20: about(0, " + what + ")", x.about(0, what), wants[what]);
        }
        due("20: no shares", x.about(1, 5), 0);
        due("20: what 6", x.about(0, 6), NO);
        due("20: what -1", x.about(0, -1), NO);
        due("20: no class", x.about(2, 0), NO);
        due("20: class -1", x.about(-1, 0), NO);
        x.proof(1);
        x.close(0);
        due("20: LOST do not count", x.about(0, 4), 9);
        x.death(1, 1);
        due("20: nor those at an END", x.about(0, 4), 5);
        due("20: all shares", x.about(0, 5), 4);
    }

    private static void promise21Told() {
        SurvivorPurse x = Worlds.newborn(2, 10);
        x.buy(0, 0, 0, 3, 0, 0);
        x.buy(1, 1, 0, 3, 3, 1);
        x.split(0, 1);
        x.set(1, 100);
        x.proof(0);
        x.close(62);
        x.close(63);
        x.proof(0);
        x.close(10);
        long[] wants = {3, 2, 9, 37, 87, 60, 0, 195, 2, 1, 3};
        for (int what = 0; what <= 10; what++) {
            due("21: told(" + what + ")", x.told(what), wants[what]);
        }
        due("21: what 11", x.told(11), NO);
        due("21: what -1", x.told(-1), NO);
        due("21: what MAX", x.told(MAX), NO);
        due("21: what became a DEBT", x.death(0, 0), 35);
        due("21: DEBTS", x.told(6), 35);
    }

    private static void promise22And23KeepAndBack() {
        SurvivorPurse x = Worlds.newborn(3, 10);
        x.buy(0, 0, 0, 4, 3, 1);
        x.buy(1, 1, 0, 4, 0, 0);
        x.proof(1);
        x.heir(0, 2);
        x.pledge(1, 2, 7);
        x.set(0, 3);
        x.set(1, 20);
        x.living(7, 94000);
        due("23: nothing was kept", x.back(), NO);
        long[] before = everything(x);
        due("22: keep", x.keep(), 1);
        for (int round = 0; round < 2; round++) {
            disturb(x);
            due("23: back", x.back(), 1);
            long[] after = everything(x);
            for (int i = 0; i < before.length; i++) {
                due("23: answer " + i + " in round " + round, after[i], before[i]);
            }
        }
        disturb(x);
        Due.holds("23: the member that will not be has coins", x.of(3, 0) > 0);
        x.back();
        x.close(50);
        x.keep();
        x.close(50);
        x.back();
        due("22: kept anew", x.told(0), 1);
        due("23: a year that was not closed drew nothing", x.drew(0, 1), NO);
        x.close(0);
        due("23: nor does it now", x.drew(1, 1), 0);
        due("23: a number that was free is new", x.member(0), 3);
        due("23: with an empty PURSE", x.of(3, 0), 0);
        due("23: a share that was not is new", x.buy(0, 2, 0, 1, 0, 0), 2);
        due("23: it drew nothing", x.drew(2, 0), 0);
    }

    private static void disturb(SurvivorPurse x) {
        x.living(7, 93500);
        x.group(5, 6, 7);
        x.member(0);
        x.heir(0, 1);
        x.heir(3, 1);
        x.set(0, 1);
        x.set(1, 500);
        x.buy(2, 2, 0, 9, 0, 0);
        x.sell(1, 3);
        x.split(0, 2);
        x.pledge(1, 1, 3);
        x.pledge(2, 1, 3);
        x.proof(2);
        x.close(1000);
        x.close(1000);
        x.proof(1);
        x.death(0, 0);
        x.death(2, 0);
        x.close(1000);
    }

    private static long[] everything(SurvivorPurse x) {
        long[] all = new long[11 + 4 * 6 + 2 * 6 + 4 * 13 + 4 * 4 + 111 + 2];
        int n = 0;
        for (int what = 0; what <= 10; what++) {
            all[n++] = x.told(what);
        }
        for (int m = 0; m < 4; m++) {
            for (int what = 0; what <= 5; what++) {
                all[n++] = x.of(m, what);
            }
        }
        for (int k = 0; k < 2; k++) {
            for (int what = 0; what <= 5; what++) {
                all[n++] = x.about(k, what);
            }
        }
        for (int s = 0; s < 4; s++) {
            for (int what = 0; what <= 12; what++) {
                all[n++] = x.share(s, what);
            }
            for (int year = 0; year < 4; year++) {
                all[n++] = x.drew(s, year);
            }
        }
        for (int age = 0; age <= 110; age++) {
            all[n++] = x.mean(age);
        }
        long patience = x.set(0, 5);
        x.set(0, (int) patience);
        long tax = x.set(1, 5);
        x.set(1, (int) tax);
        all[n++] = patience;
        all[n++] = tax;
        return all;
    }
}
