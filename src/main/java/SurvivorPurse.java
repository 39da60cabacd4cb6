import java.util.Arrays;

/**
 * A purse of survivors: members pay once for shares, and the yield of each year is parted among
 * those who live. Every refused call answers NO and changes nothing.
 */
public final class SurvivorPurse {
    public static final long NO = -1000000000000000L;

    private static final int NONE = -1;
    private static final int MOST_MEMBERS = 24;
    private static final int MOST_CLASSES = 6;
    private static final int MOST_SHARES = 40;
    private static final int LAST_YEAR = 60;
    private static final int OLDEST = 110;
    private static final int BORN = 100000;
    private static final int DYING_EACH_YEAR = 900;
    private static final int MOST_PRICE = 10000;
    private static final int MOST_UNITS = 1000;
    private static final int MOST_SURE_YEARS = 30;
    private static final int MOST_PLEDGED = 1000000000;
    private static final int MOST_YIELD = 100000000;
    private static final int MOST_PATIENCE = 5;
    private static final int FIRST_PATIENCE = 2;
    private static final int THOUSAND = 1000;
    private static final int MILLION = 1000000;

    private static final int PLAIN = 0;
    private static final int JOINT = 1;
    private static final int SURE = 2;
    private static final int BACK = 3;

    private static final int LIVE = 0;
    private static final int WAITS = 1;
    private static final int LOST = 2;
    private static final int AT_END = 3;

    private final Book book;
    private Book kept;

    public SurvivorPurse() {
        book = new Book();
        kept = null;
    }

    // ---- the table

    public long living(int age, int n) {
        if (!isAge(age) || n < 0 || n > BORN || !book.table.fits(age, n)) {
            return NO;
        }
        return book.table.replace(age, n);
    }

    public long foretell(int age, int years) {
        if (!isAge(age) || years < 0) {
            return NO;
        }
        return years > OLDEST - age ? 0 : parted(MILLION, book.table.at(age + years), book.table.at(age));
    }

    public long mean(int age) {
        if (!isAge(age)) {
            return NO;
        }
        return parted(THOUSAND, book.table.sumAbove(age), book.table.at(age));
    }

    public long dearer(int k, int q) {
        if (!book.isRank(k) || !book.isRank(q)) {
            return NO;
        }
        Rank first = book.ranks[k];
        Rank second = book.ranks[q];
        long firstSum = book.table.sumAbove(first.low);
        long secondSum = book.table.sumAbove(second.low);
        if (firstSum == 0 || secondSum == 0) {
            return sign(secondSum, firstSum);
        }
        // Both fractions are multiplied by both sums: the long holds that, and nothing is cut.
        return sign(first.price * book.table.at(first.low) * secondSum,
            second.price * book.table.at(second.low) * firstSum);
    }

    // ---- members, classes

    public long member(int birth) {
        if (birth > book.year || birth < book.year - OLDEST || book.memberCount >= MOST_MEMBERS) {
            return NO;
        }
        return book.addMember(birth);
    }

    public long heir(int m, int heir) {
        if (!book.isMember(m) || heir == m || (heir != NONE && !book.isMember(heir))) {
            return NO;
        }
        int before = book.members[m].heirNumber;
        book.members[m].heirNumber = heir;
        return before;
    }

    public long group(int low, int high, int price) {
        if (!isAge(low) || !isAge(high) || low > high) {
            return NO;
        }
        if (!isWithin(price, 1, MOST_PRICE) || book.rankCount >= MOST_CLASSES) {
            return NO;
        }
        return book.addRank(low, high, price);
    }

    public long set(int what, int v) {
        if (what == 0 && isWithin(v, 1, MOST_PATIENCE)) {
            int before = book.patience;
            book.patience = v;
            return before;
        }
        if (what == 1 && isWithin(v, 0, THOUSAND)) {
            int before = book.tax;
            book.tax = v;
            return before;
        }
        return NO;
    }

    // ---- shares

    public long buy(int holder, int life, int other, int units, int kind, int years) {
        if (!isWithin(kind, PLAIN, BACK) || !isWithin(units, 1, MOST_UNITS)) {
            return NO;
        }
        if ((kind == SURE || kind == BACK) && !isWithin(years, 1, MOST_SURE_YEARS)) {
            return NO;
        }
        int second = kind == JOINT ? other : NONE;
        if (!book.isMember(holder) || !book.canBeLives(life, second, kind == JOINT)) {
            return NO;
        }
        int rank = book.rankFor(life, second);
        if (rank == NONE || book.shareCount >= MOST_SHARES) {
            return NO;
        }
        int number = book.addShare(holder, life, second, units, rank);
        Share bought = book.shares[number];
        bought.kind = kind;
        bought.sureUntil = kind == SURE || kind == BACK ? book.year + years : book.year;
        return number;
    }

    public long sell(int s, int holder) {
        if (!book.isShare(s) || !book.isMember(holder)) {
            return NO;
        }
        int before = book.shares[s].holder;
        book.shares[s].holder = holder;
        return before;
    }

    public long split(int s, int units) {
        if (!book.isShare(s) || book.shareCount >= MOST_SHARES) {
            return NO;
        }
        if (!isWithin(units, 1, book.shares[s].units - 1)) {
            return NO;
        }
        return book.addPart(book.shares[s], units);
    }

    public long pledge(int s, int to, int amount) {
        if (!book.isShare(s) || !book.isMember(to) || !isWithin(amount, 0, MOST_PLEDGED)) {
            return NO;
        }
        Share pledged = book.shares[s];
        long before = pledged.pledged;
        pledged.pledged = amount;
        pledged.pledgedTo = to;
        return before;
    }

    public long share(int s, int what) {
        if (!book.isShare(s)) {
            return NO;
        }
        Share asked = book.shares[s];
        switch (what) {
            case 0: return asked.holder;
            case 1: return asked.life;
            case 2: return asked.other;
            case 3: return asked.units;
            case 4: return asked.rank;
            case 5: return asked.kind;
            case 6: return asked.paid;
            case 7: return asked.drawn;
            case 8: return asked.heldAt(book.year);
            case 9: return asked.since;
            case 10: return asked.unproved;
            case 11: return book.howItIs(asked);
            case 12: return asked.pledged;
            default: return NO;
        }
    }

    public long drew(int s, int year) {
        if (!book.isShare(s) || !isWithin(year, 0, book.year - 1)) {
            return NO;
        }
        return book.shares[s].drewIn(year, year + 1);
    }

    // ---- lives, years

    public long proof(int m) {
        if (!book.isMember(m) || book.members[m].dead || book.members[m].proved) {
            return NO;
        }
        return book.prove(m);
    }

    public long death(int m, int year) {
        if (!book.isMember(m) || book.members[m].dead) {
            return NO;
        }
        if (!isWithin(year, book.members[m].birth, book.year)) {
            return NO;
        }
        return book.learnDeath(m, year);
    }

    public long close(int coins) {
        if (!isWithin(coins, 0, MOST_YIELD) || book.year >= LAST_YEAR) {
            return NO;
        }
        book.partPot(coins);
        long paidOut = book.drawAll();
        book.beginNextYear();
        book.giveBack();
        return paidOut;
    }

    public long of(int m, int what) {
        if (!book.isMember(m)) {
            return NO;
        }
        Member asked = book.members[m];
        switch (what) {
            case 0: return asked.purse;
            case 1: return asked.debt;
            case 2: return asked.birth;
            case 3: return asked.proved ? 1 : 0;
            case 4: return asked.dead ? asked.died : NO;
            case 5: return asked.heirNumber;
            default: return NO;
        }
    }

    public long about(int k, int what) {
        if (!book.isRank(k)) {
            return NO;
        }
        Rank asked = book.ranks[k];
        switch (what) {
            case 0: return asked.low;
            case 1: return asked.high;
            case 2: return asked.price;
            case 3: return asked.stock;
            case 4: return book.drawingUnits(k);
            case 5: return book.sharesIn(k);
            default: return NO;
        }
    }

    public long told(int what) {
        switch (what) {
            case 0: return book.year;
            case 1: return book.carry;
            case 2: return book.taxes;
            case 3: return book.allHeld();
            case 4: return book.allPurses();
            case 5: return book.allStocks();
            case 6: return book.allDebts();
            case 7: return book.cameIn;
            case 8: return book.memberCount;
            case 9: return book.rankCount;
            case 10: return book.shareCount;
            default: return NO;
        }
    }

    public long keep() {
        if (kept == null) {
            kept = new Book();
        }
        kept.copyFrom(book);
        return 1;
    }

    public long back() {
        if (kept == null) {
            return NO;
        }
        book.copyFrom(kept);
        return 1;
    }

    // ---- plain helpers

    private static boolean isWithin(int v, int least, int most) {
        return v >= least && v <= most;
    }

    private static boolean isAge(int age) {
        return isWithin(age, 0, OLDEST);
    }

    private static long sign(long a, long b) {
        return a > b ? 1 : a < b ? -1 : 0;
    }

    /** An amount times part by whole, cut; 0 where there is no whole to part. */
    private static long parted(long amount, long part, long whole) {
        return whole > 0 ? amount * part / whole : 0;
    }

    /** How many of those born are living at each age; it never rises with the age. */
    private static final class Table {
        final int[] alive = new int[OLDEST + 1];

        Table() {
            for (int age = 0; age <= OLDEST; age++) {
                alive[age] = BORN - DYING_EACH_YEAR * age;
            }
        }

        long at(int age) {
            return isAge(age) ? alive[age] : 0;
        }

        boolean fits(int age, int n) {
            boolean notAbove = age <= 0 || n <= at(age - 1);
            boolean notBelow = age >= OLDEST || n >= at(age + 1);
            return notAbove && notBelow;
        }

        long replace(int age, int n) {
            long before = at(age);
            if (isAge(age)) {
                alive[age] = n;
            }
            return before;
        }

        long sumAbove(int age) {
            long sum = 0;
            for (int later = age + 1; later <= OLDEST; later++) {
                sum += at(later);
            }
            return sum;
        }

        void copyFrom(Table from) {
            System.arraycopy(from.alive, 0, alive, 0, OLDEST + 1);
        }
    }

    private static final class Member {
        int birth;
        long purse;
        long debt;
        int heirNumber;
        boolean proved;
        boolean dead;
        int died;

        void begin(int bornIn) {
            birth = bornIn;
            purse = 0;
            debt = 0;
            heirNumber = NONE;
            proved = false;
            dead = false;
            died = 0;
        }

        void copyFrom(Member from) {
            birth = from.birth;
            purse = from.purse;
            debt = from.debt;
            heirNumber = from.heirNumber;
            proved = from.proved;
            dead = from.dead;
            died = from.died;
        }
    }

    /** A class of the document: the word is taken in Java. */
    private static final class Rank {
        int low;
        int high;
        int price;
        long stock;
        // What the close() that runs parts here, and among how many units: no other call reads it.
        long toPart;
        long partUnits;

        void begin(int lowest, int highest, int unitPrice) {
            low = lowest;
            high = highest;
            price = unitPrice;
            stock = 0;
            toPart = 0;
            partUnits = 0;
        }

        void copyFrom(Rank from) {
            low = from.low;
            high = from.high;
            price = from.price;
            stock = from.stock;
            toPart = from.toPart;
            partUnits = from.partUnits;
        }
    }

    /**
     * What a share drew stands in one row by years. A share is paid all that it held before it can
     * be LIVE again, so what is still held is always the row's tail: from the year heldFrom on.
     */
    private static final class Share {
        int holder;
        int life;
        int other;
        int units;
        int rank;
        int kind;
        long paid;
        long drawn;
        int since;
        // For kinds without years sure it is the year of the purchase, so that no year is sure.
        int sureUntil;
        int unproved;
        long pledged;
        int pledgedTo;
        boolean backWent;
        int heldFrom;
        final long[] draws = new long[LAST_YEAR];

        void begin(int year) {
            kind = PLAIN;
            drawn = 0;
            since = year;
            sureUntil = year;
            unproved = 0;
            pledged = 0;
            pledgedTo = NONE;
            backWent = false;
            heldFrom = year;
            Arrays.fill(draws, 0L);
        }

        boolean hasLife(int m) {
            return life == m || other == m;
        }

        long drewIn(int fromYear, int beforeYear) {
            long sum = 0;
            for (int y = Math.max(fromYear, 0); y < beforeYear && y < LAST_YEAR; y++) {
                sum += draws[y];
            }
            return sum;
        }

        long heldAt(int year) {
            return drewIn(heldFrom, year);
        }

        void note(int year, long coins) {
            if (isWithin(year, 0, LAST_YEAR - 1)) {
                draws[year] = coins;
            }
        }

        /** Nothing is held any more; answers what was. */
        long release(int year) {
            long held = heldAt(year);
            heldFrom = year;
            return held;
        }

        /** What is held for years above the end was never drawn; answers how much that was. */
        long forgetHeldAbove(int end, int year) {
            int from = Math.max(heldFrom, end + 1);
            long forgotten = drewIn(from, year);
            for (int y = from; y < year; y++) {
                note(y, 0);
            }
            return forgotten;
        }

        void copyFrom(Share from) {
            holder = from.holder;
            life = from.life;
            other = from.other;
            units = from.units;
            rank = from.rank;
            kind = from.kind;
            paid = from.paid;
            drawn = from.drawn;
            since = from.since;
            sureUntil = from.sureUntil;
            unproved = from.unproved;
            pledged = from.pledged;
            pledgedTo = from.pledgedTo;
            backWent = from.backWent;
            heldFrom = from.heldFrom;
            System.arraycopy(from.draws, 0, draws, 0, LAST_YEAR);
        }

        void shrinkTo(int part) {
            paid = parted(paid, part, units);
            drawn = parted(drawn, part, units);
            pledged = parted(pledged, part, units);
            for (int y = 0; y < LAST_YEAR; y++) {
                draws[y] = parted(draws[y], part, units);
            }
            units = part;
        }

        void loseTo(Share part) {
            units -= part.units;
            paid -= part.paid;
            drawn -= part.drawn;
            pledged -= part.pledged;
            for (int y = 0; y < LAST_YEAR; y++) {
                draws[y] -= part.draws[y];
            }
        }
    }

    /** All that keep() keeps. */
    private static final class Book {
        final Table table = new Table();
        final Member[] members = new Member[MOST_MEMBERS];
        final Rank[] ranks = new Rank[MOST_CLASSES];
        final Share[] shares = new Share[MOST_SHARES];
        int memberCount;
        int rankCount;
        int shareCount;
        int year;
        int patience = FIRST_PATIENCE;
        int tax;
        long carry;
        long taxes;
        long cameIn;

        Book() {
            for (int m = 0; m < MOST_MEMBERS; m++) {
                members[m] = new Member();
            }
            for (int k = 0; k < MOST_CLASSES; k++) {
                ranks[k] = new Rank();
            }
            for (int s = 0; s < MOST_SHARES; s++) {
                shares[s] = new Share();
            }
        }

        /** Rows behind the counts are not copied: whoever adds one begins it anew. */
        void copyFrom(Book from) {
            table.copyFrom(from.table);
            memberCount = from.memberCount;
            rankCount = from.rankCount;
            shareCount = from.shareCount;
            year = from.year;
            patience = from.patience;
            tax = from.tax;
            carry = from.carry;
            taxes = from.taxes;
            cameIn = from.cameIn;
            for (int m = 0; m < memberCount; m++) {
                members[m].copyFrom(from.members[m]);
            }
            for (int k = 0; k < rankCount; k++) {
                ranks[k].copyFrom(from.ranks[k]);
            }
            for (int s = 0; s < shareCount; s++) {
                shares[s].copyFrom(from.shares[s]);
            }
        }

        boolean isMember(int m) {
            return m >= 0 && m < memberCount;
        }

        boolean isRank(int k) {
            return k >= 0 && k < rankCount;
        }

        boolean isShare(int s) {
            return s >= 0 && s < shareCount;
        }

        int addMember(int birth) {
            members[memberCount].begin(birth);
            memberCount++;
            return memberCount - 1;
        }

        int addRank(int low, int high, int price) {
            ranks[rankCount].begin(low, high, price);
            rankCount++;
            return rankCount - 1;
        }

        int addShare(int holder, int life, int other, int units, int rank) {
            Share bought = shares[shareCount];
            bought.begin(year);
            bought.holder = holder;
            bought.life = life;
            bought.other = other;
            bought.units = units;
            bought.rank = rank;
            bought.paid = (long) units * ranks[rank].price;
            ranks[rank].stock += bought.paid;
            cameIn += bought.paid;
            shareCount++;
            return shareCount - 1;
        }

        int addPart(Share whole, int units) {
            Share part = shares[shareCount];
            part.copyFrom(whole);
            part.shrinkTo(units);
            whole.loseTo(part);
            shareCount++;
            return shareCount - 1;
        }

        boolean canBeLives(int life, int second, boolean two) {
            if (!isMember(life) || members[life].dead) {
                return false;
            }
            return !two || (isMember(second) && second != life && !members[second].dead);
        }

        /** The first class with the age of the younger life, NONE without one. */
        int rankFor(int life, int second) {
            int birth = members[life].birth;
            if (isMember(second)) {
                birth = Math.max(birth, members[second].birth);
            }
            for (int k = 0; k < rankCount; k++) {
                if (isWithin(year - birth, ranks[k].low, ranks[k].high)) {
                    return k;
                }
            }
            return NONE;
        }

        // ---- how a share is

        boolean isProved(int m) {
            return isMember(m) && members[m].proved;
        }

        boolean isDead(int m) {
            return isMember(m) && members[m].dead;
        }

        boolean isAllDead(Share s) {
            return isDead(s.life) && (s.other == NONE || isDead(s.other));
        }

        int howItIs(Share s) {
            if (isProved(s.life) || isProved(s.other) || year < s.sureUntil) {
                return LIVE;
            }
            if (isAllDead(s)) {
                return AT_END;
            }
            return s.unproved < patience ? WAITS : LOST;
        }

        boolean isDrawing(Share s) {
            int how = howItIs(s);
            return how == LIVE || how == WAITS;
        }

        /** The latest death among lives that are all known dead. */
        int endOf(Share s) {
            int end = members[s.life].died;
            return isMember(s.other) ? Math.max(end, members[s.other].died) : end;
        }

        // ---- coins

        void payOut(Share s, long amount) {
            Member holder = members[s.holder];
            long toTaxes = parted(amount, tax, THOUSAND);
            long left = amount - toTaxes;
            long toDebt = Math.min(left, holder.debt);
            left -= toDebt;
            long toPledge = isMember(s.pledgedTo) ? Math.min(left, s.pledged) : 0;
            left -= toPledge;
            taxes += toTaxes;
            holder.debt -= toDebt;
            carry += toDebt;
            if (isMember(s.pledgedTo)) {
                s.pledged -= toPledge;
                members[s.pledgedTo].purse += toPledge;
            }
            holder.purse += left;
            s.drawn += amount;
        }

        long payHeld(Share s) {
            long held = s.release(year);
            payOut(s, held);
            return held;
        }

        long prove(int m) {
            members[m].proved = true;
            long paidOut = 0;
            for (int i = 0; i < shareCount; i++) {
                if (shares[i].hasLife(m)) {
                    paidOut += payHeld(shares[i]);
                    shares[i].unproved = 0;
                }
            }
            return paidOut;
        }

        long learnDeath(int m, int diedIn) {
            members[m].dead = true;
            members[m].died = diedIn;
            members[m].proved = false;
            long owed = 0;
            for (int i = 0; i < shareCount; i++) {
                if (shares[i].hasLife(m) && isAllDead(shares[i])) {
                    owed += settle(shares[i]);
                }
            }
            return owed;
        }

        /** Settles a share whose last life became known dead; answers what its holder owes for it. */
        long settle(Share s) {
            int end = endOf(s);
            carry += s.forgetHeldAbove(end, year);
            payHeld(s);
            // What was held above the end is 0 in the row by now: the rest was paid out.
            long owed = s.drewIn(Math.max(end + 1, s.sureUntil), year);
            members[s.holder].debt += owed;
            return owed;
        }

        // ---- the steps of close()

        /** The whole pot stands in CARRY: each draw is taken from there, so what nobody draws stays. */
        void partPot(int coins) {
            carry += coins;
            cameIn += coins;
            long stocks = allStocks();
            long handedOn = 0;
            for (int k = 0; k < rankCount; k++) {
                Rank r = ranks[k];
                r.partUnits = drawingUnits(k);
                r.toPart = handedOn + parted(carry, r.stock, stocks);
                handedOn = r.partUnits > 0 ? 0 : r.toPart;
            }
        }

        long drawAll() {
            long paidOut = 0;
            for (int i = 0; i < shareCount; i++) {
                Share s = shares[i];
                int how = howItIs(s);
                if (how == LIVE || how == WAITS) {
                    paidOut += draw(s, how == LIVE);
                }
                s.unproved = how == LIVE || how == AT_END ? 0 : s.unproved + 1;
            }
            return paidOut;
        }

        long draw(Share s, boolean atOnce) {
            Rank r = ranks[s.rank];
            long coins = parted(r.toPart, s.units, r.partUnits);
            carry -= coins;
            s.note(year, coins);
            if (!atOnce) {
                return 0;
            }
            s.heldFrom = year + 1;
            payOut(s, coins);
            return coins;
        }

        void beginNextYear() {
            year++;
            for (int m = 0; m < memberCount; m++) {
                members[m].proved = false;
            }
        }

        void giveBack() {
            for (int i = 0; i < shareCount; i++) {
                Share s = shares[i];
                if (s.kind == BACK && !s.backWent && howItIs(s) == AT_END) {
                    s.backWent = true;
                    giveBackOf(s);
                }
            }
        }

        void giveBackOf(Share s) {
            Rank r = ranks[s.rank];
            long coins = Math.min(Math.max(s.paid - s.drawn, 0), r.stock);
            int heirNumber = members[s.life].heirNumber;
            r.stock -= coins;
            members[isMember(heirNumber) ? heirNumber : s.holder].purse += coins;
        }

        // ---- sums

        long drawingUnits(int k) {
            long units = 0;
            for (int i = 0; i < shareCount; i++) {
                if (shares[i].rank == k && isDrawing(shares[i])) {
                    units += shares[i].units;
                }
            }
            return units;
        }

        long sharesIn(int k) {
            long count = 0;
            for (int i = 0; i < shareCount; i++) {
                if (shares[i].rank == k) {
                    count++;
                }
            }
            return count;
        }

        long allHeld() {
            long sum = 0;
            for (int i = 0; i < shareCount; i++) {
                sum += shares[i].heldAt(year);
            }
            return sum;
        }

        long allPurses() {
            long sum = 0;
            for (int m = 0; m < memberCount; m++) {
                sum += members[m].purse;
            }
            return sum;
        }

        long allStocks() {
            long sum = 0;
            for (int k = 0; k < rankCount; k++) {
                sum += ranks[k].stock;
            }
            return sum;
        }

        long allDebts() {
            long sum = 0;
            for (int m = 0; m < memberCount; m++) {
                sum += members[m].debt;
            }
            return sum;
        }
    }
}
