import java.util.ArrayList;
import java.util.List;
import java.util.TreeMap;

/**
 * The document once more, written as slowly and as plainly as can be, to compare the class with:
 * what is held and what was paid stand apart by years, products are exact, keep() copies anew.
 */
final class PlainPurse {
    static final long NO = Due.NO;

    static final class Person {
        int birth;
        long purse;
        long debt;
        Integer heir;
        boolean proved;
        Integer death;

        Person copy() {
            Person p = new Person();
            p.birth = birth;
            p.purse = purse;
            p.debt = debt;
            p.heir = heir;
            p.proved = proved;
            p.death = death;
            return p;
        }
    }

    static final class Klass {
        int low;
        int high;
        int price;
        long stock;

        Klass copy() {
            Klass k = new Klass();
            k.low = low;
            k.high = high;
            k.price = price;
            k.stock = stock;
            return k;
        }
    }

    static final class Part {
        int holder;
        List<Integer> lives = new ArrayList<>();
        int units;
        int klass;
        int kind;
        int yearsSure;
        long paid;
        long drawn;
        int since;
        TreeMap<Integer, Long> held = new TreeMap<>();
        TreeMap<Integer, Long> out = new TreeMap<>();
        int unproved;
        Integer pledgedTo;
        long pledged;
        boolean backWent;

        Part copy() {
            Part p = new Part();
            p.holder = holder;
            p.lives = new ArrayList<>(lives);
            p.units = units;
            p.klass = klass;
            p.kind = kind;
            p.yearsSure = yearsSure;
            p.paid = paid;
            p.drawn = drawn;
            p.since = since;
            p.held = new TreeMap<>(held);
            p.out = new TreeMap<>(out);
            p.unproved = unproved;
            p.pledgedTo = pledgedTo;
            p.pledged = pledged;
            p.backWent = backWent;
            return p;
        }
    }

    static final class World {
        int year = 0;
        int patience = 2;
        int tax = 0;
        long carry = 0;
        long taxes = 0;
        long paidForShares = 0;
        long yielded = 0;
        long[] living = new long[111];
        List<Person> people = new ArrayList<>();
        List<Klass> klasses = new ArrayList<>();
        List<Part> parts = new ArrayList<>();

        World copy() {
            World w = new World();
            w.year = year;
            w.patience = patience;
            w.tax = tax;
            w.carry = carry;
            w.taxes = taxes;
            w.paidForShares = paidForShares;
            w.yielded = yielded;
            w.living = living.clone();
            for (Person p : people) {
                w.people.add(p.copy());
            }
            for (Klass k : klasses) {
                w.klasses.add(k.copy());
            }
            for (Part p : parts) {
                w.parts.add(p.copy());
            }
            return w;
        }
    }

    private World w = new World();
    private World kept = null;

    PlainPurse() {
        for (int a = 0; a <= 110; a++) {
            w.living[a] = 100000 - 900L * a;
        }
    }

    private static long cut(long a, long b, long by) {
        return Math.floorDiv(Math.multiplyExact(a, b), by);
    }

    long living(int age, int n) {
        if (age < 0 || age > 110) return NO;
        if (n < 0 || n > 100000) return NO;
        if (age > 0 && n > w.living[age - 1]) return NO;
        if (age < 110 && n < w.living[age + 1]) return NO;
        long was = w.living[age];
        w.living[age] = n;
        return was;
    }

    long foretell(int age, int years) {
        if (age < 0 || age > 110 || years < 0) return NO;
        long later = (long) age + years;
        if (later > 110 || w.living[age] == 0) return 0;
        return cut(1000000, w.living[(int) later], w.living[age]);
    }

    private long sumLater(int age) {
        long sum = 0;
        for (int years = 1; age + years <= 110; years++) {
            sum += w.living[age + years];
        }
        return sum;
    }

    long mean(int age) {
        if (age < 0 || age > 110) return NO;
        return w.living[age] == 0 ? 0 : cut(1000, sumLater(age), w.living[age]);
    }

    long dearer(int k, int q) {
        if (k < 0 || k >= w.klasses.size() || q < 0 || q >= w.klasses.size()) return NO;
        Klass a = w.klasses.get(k);
        Klass b = w.klasses.get(q);
        boolean aNothing = sumLater(a.low) == 0;
        boolean bNothing = sumLater(b.low) == 0;
        if (aNothing && bNothing) return 0;
        if (aNothing) return 1;
        if (bNothing) return -1;
        java.math.BigInteger left = java.math.BigInteger.valueOf(a.price)
            .multiply(java.math.BigInteger.valueOf(w.living[a.low]))
            .multiply(java.math.BigInteger.valueOf(sumLater(b.low)));
        java.math.BigInteger right = java.math.BigInteger.valueOf(b.price)
            .multiply(java.math.BigInteger.valueOf(w.living[b.low]))
            .multiply(java.math.BigInteger.valueOf(sumLater(a.low)));
        return left.compareTo(right);
    }

    private boolean person(int m) {
        return m >= 0 && m < w.people.size();
    }

    private boolean part(int s) {
        return s >= 0 && s < w.parts.size();
    }

    long member(int birth) {
        if (birth > w.year || (long) w.year - birth > 110 || w.people.size() == 24) return NO;
        Person p = new Person();
        p.birth = birth;
        w.people.add(p);
        return w.people.size() - 1;
    }

    long heir(int m, int heir) {
        if (!person(m)) return NO;
        if (heir != -1 && (!person(heir) || heir == m)) return NO;
        Integer was = w.people.get(m).heir;
        w.people.get(m).heir = heir == -1 ? null : (Integer) heir;
        return was == null ? -1 : was;
    }

    long group(int low, int high, int price) {
        if (low < 0 || low > 110 || high < 0 || high > 110 || low > high) return NO;
        if (price < 1 || price > 10000 || w.klasses.size() == 6) return NO;
        Klass k = new Klass();
        k.low = low;
        k.high = high;
        k.price = price;
        w.klasses.add(k);
        return w.klasses.size() - 1;
    }

    long set(int what, int v) {
        if (what == 0) {
            if (v < 1 || v > 5) return NO;
            int was = w.patience;
            w.patience = v;
            return was;
        }
        if (what == 1) {
            if (v < 0 || v > 1000) return NO;
            int was = w.tax;
            w.tax = v;
            return was;
        }
        return NO;
    }

    long buy(int holder, int life, int other, int units, int kind, int years) {
        if (!person(holder) || !person(life)) return NO;
        if (kind == 1 && (!person(other) || other == life)) return NO;
        Part p = new Part();
        p.lives.add(life);
        if (kind == 1) p.lives.add(other);
        int age = Integer.MAX_VALUE;
        for (int l : p.lives) {
            if (w.people.get(l).death != null) return NO;
            age = Math.min(age, w.year - w.people.get(l).birth);
        }
        if (kind < 0 || kind > 3) return NO;
        if (units < 1 || units > 1000) return NO;
        if (kind >= 2 && (years < 1 || years > 30)) return NO;
        int found = -1;
        for (int k = w.klasses.size() - 1; k >= 0; k--) {
            if (w.klasses.get(k).low <= age && age <= w.klasses.get(k).high) found = k;
        }
        if (found < 0 || w.parts.size() == 40) return NO;
        p.holder = holder;
        p.units = units;
        p.klass = found;
        p.kind = kind;
        p.yearsSure = kind >= 2 ? years : 0;
        p.paid = Math.multiplyExact((long) units, w.klasses.get(found).price);
        p.since = w.year;
        w.klasses.get(found).stock += p.paid;
        w.paidForShares += p.paid;
        w.parts.add(p);
        return w.parts.size() - 1;
    }

    long sell(int s, int holder) {
        if (!part(s) || !person(holder)) return NO;
        int was = w.parts.get(s).holder;
        w.parts.get(s).holder = holder;
        return was;
    }

    long split(int s, int units) {
        if (!part(s) || units < 1 || units >= w.parts.get(s).units || w.parts.size() == 40) return NO;
        Part old = w.parts.get(s);
        Part fresh = old.copy();
        long all = old.units;
        fresh.units = units;
        old.units -= units;
        fresh.paid = cut(old.paid, units, all);
        old.paid -= fresh.paid;
        fresh.drawn = cut(old.drawn, units, all);
        old.drawn -= fresh.drawn;
        fresh.pledged = cut(old.pledged, units, all);
        old.pledged -= fresh.pledged;
        splitYears(old.held, fresh.held, units, all);
        splitYears(old.out, fresh.out, units, all);
        w.parts.add(fresh);
        return w.parts.size() - 1;
    }

    private static void splitYears(TreeMap<Integer, Long> old, TreeMap<Integer, Long> fresh, long units, long all) {
        for (Integer y : new ArrayList<>(old.keySet())) {
            long goes = cut(old.get(y), units, all);
            fresh.put(y, goes);
            old.put(y, old.get(y) - goes);
        }
    }

    long pledge(int s, int to, int amount) {
        if (!part(s) || !person(to) || amount < 0 || amount > 1000000000) return NO;
        long was = w.parts.get(s).pledged;
        w.parts.get(s).pledged = amount;
        w.parts.get(s).pledgedTo = to;
        return was;
    }

    private static long sum(TreeMap<Integer, Long> years) {
        long sum = 0;
        for (long v : years.values()) sum += v;
        return sum;
    }

    private boolean inSureYears(Part p) {
        return p.kind >= 2 && w.year < p.since + p.yearsSure;
    }

    private boolean allDead(Part p) {
        for (int l : p.lives) {
            if (w.people.get(l).death == null) return false;
        }
        return true;
    }

    private boolean atEnd(Part p) {
        return allDead(p) && !inSureYears(p);
    }

    private boolean live(Part p) {
        for (int l : p.lives) {
            if (w.people.get(l).proved) return true;
        }
        return inSureYears(p);
    }

    private boolean waits(Part p) {
        return !live(p) && !atEnd(p) && p.unproved < w.patience;
    }

    private int how(Part p) {
        return live(p) ? 0 : atEnd(p) ? 3 : waits(p) ? 1 : 2;
    }

    long share(int s, int what) {
        if (!part(s)) return NO;
        Part p = w.parts.get(s);
        if (what == 0) return p.holder;
        if (what == 1) return p.lives.get(0);
        if (what == 2) return p.lives.size() == 2 ? p.lives.get(1) : -1;
        if (what == 3) return p.units;
        if (what == 4) return p.klass;
        if (what == 5) return p.kind;
        if (what == 6) return p.paid;
        if (what == 7) return p.drawn;
        if (what == 8) return sum(p.held);
        if (what == 9) return p.since;
        if (what == 10) return p.unproved;
        if (what == 11) return how(p);
        if (what == 12) return p.pledged;
        return NO;
    }

    long drew(int s, int year) {
        if (!part(s) || year < 0 || year >= w.year) return NO;
        Part p = w.parts.get(s);
        return p.held.getOrDefault(year, 0L) + p.out.getOrDefault(year, 0L);
    }

    private void payOut(Part p, long amount) {
        p.drawn += amount;
        long tax = cut(amount, w.tax, 1000);
        w.taxes += tax;
        amount -= tax;
        Person holder = w.people.get(p.holder);
        long debt = Math.min(amount, holder.debt);
        holder.debt -= debt;
        w.carry += debt;
        amount -= debt;
        if (p.pledgedTo != null) {
            long pledge = Math.min(amount, p.pledged);
            p.pledged -= pledge;
            w.people.get(p.pledgedTo).purse += pledge;
            amount -= pledge;
        }
        holder.purse += amount;
    }

    private long payHeld(Part p) {
        long all = sum(p.held);
        for (Integer y : p.held.keySet()) {
            p.out.merge(y, p.held.get(y), Long::sum);
        }
        p.held.clear();
        payOut(p, all);
        return all;
    }

    long proof(int m) {
        if (!person(m)) return NO;
        Person who = w.people.get(m);
        if (who.death != null || who.proved) return NO;
        who.proved = true;
        long out = 0;
        for (Part p : w.parts) {
            if (p.lives.contains(m)) {
                out += payHeld(p);
                p.unproved = 0;
            }
        }
        return out;
    }

    long death(int m, int year) {
        if (!person(m)) return NO;
        Person who = w.people.get(m);
        if (who.death != null || year < who.birth || year > w.year) return NO;
        who.death = year;
        who.proved = false;
        long owed = 0;
        for (Part p : w.parts) {
            if (!p.lives.contains(m) || !allDead(p)) continue;
            int end = Integer.MIN_VALUE;
            for (int l : p.lives) end = Math.max(end, w.people.get(l).death);
            for (Integer y : new ArrayList<>(p.held.keySet())) {
                if (y > end) w.carry += p.held.remove(y);
            }
            payHeld(p);
            for (Integer y : p.out.keySet()) {
                boolean sure = p.kind >= 2 && y < p.since + p.yearsSure;
                if (y > end && !sure) {
                    owed += p.out.get(y);
                    w.people.get(p.holder).debt += p.out.get(y);
                }
            }
        }
        return owed;
    }

    long close(int yield) {
        if (yield < 0 || yield > 100000000 || w.year == 60) return NO;
        long pot = w.carry + yield;
        w.yielded += yield;
        w.carry = 0;
        int n = w.klasses.size();
        long stocks = told(5);
        long[] part = new long[n];
        long left = pot;
        for (int k = 0; k < n; k++) {
            part[k] = stocks == 0 ? 0 : cut(pot, w.klasses.get(k).stock, stocks);
            left -= part[k];
        }
        w.carry += left;
        long[] has = new long[n];
        for (int k = 0; k < n; k++) {
            int to = k;
            while (to < n && about(to, 4) == 0) to++;
            if (to < n) has[to] += part[k];
            else w.carry += part[k];
        }
        long[] draws = new long[w.parts.size()];
        int[] hows = new int[w.parts.size()];
        for (int s = 0; s < draws.length; s++) {
            hows[s] = how(w.parts.get(s));
        }
        for (int k = 0; k < n; k++) {
            long units = about(k, 4);
            long rest = has[k];
            for (int s = 0; s < draws.length; s++) {
                if (w.parts.get(s).klass == k && hows[s] <= 1) {
                    draws[s] = cut(has[k], w.parts.get(s).units, units);
                    rest -= draws[s];
                }
            }
            w.carry += rest;
        }
        long out = 0;
        for (int s = 0; s < draws.length; s++) {
            Part p = w.parts.get(s);
            if (hows[s] == 0) {
                out += draws[s];
                p.out.put(w.year, draws[s]);
                payOut(p, draws[s]);
            }
            if (hows[s] == 1) p.held.put(w.year, draws[s]);
            if (hows[s] == 1 || hows[s] == 2) p.unproved++;
            else p.unproved = 0;
        }
        w.year++;
        for (Person p : w.people) p.proved = false;
        backGoes();
        return out;
    }

    private void backGoes() {
        for (Part p : w.parts) {
            if (p.kind != 3 || p.backWent || !atEnd(p)) continue;
            p.backWent = true;
            long back = p.paid - p.drawn;
            if (back <= 0) continue;
            back = Math.min(back, w.klasses.get(p.klass).stock);
            w.klasses.get(p.klass).stock -= back;
            Integer heir = w.people.get(p.lives.get(0)).heir;
            w.people.get(heir == null ? p.holder : heir).purse += back;
        }
    }

    long of(int m, int what) {
        if (!person(m)) return NO;
        Person p = w.people.get(m);
        if (what == 0) return p.purse;
        if (what == 1) return p.debt;
        if (what == 2) return p.birth;
        if (what == 3) return p.proved ? 1 : 0;
        if (what == 4) return p.death == null ? NO : p.death;
        if (what == 5) return p.heir == null ? -1 : p.heir;
        return NO;
    }

    long about(int k, int what) {
        if (k < 0 || k >= w.klasses.size()) return NO;
        Klass c = w.klasses.get(k);
        if (what == 0) return c.low;
        if (what == 1) return c.high;
        if (what == 2) return c.price;
        if (what == 3) return c.stock;
        long units = 0;
        long count = 0;
        for (Part p : w.parts) {
            if (p.klass != k) continue;
            count++;
            if (live(p) || waits(p)) units += p.units;
        }
        if (what == 4) return units;
        if (what == 5) return count;
        return NO;
    }

    long told(int what) {
        long sum = 0;
        switch (what) {
            case 0: return w.year;
            case 1: return w.carry;
            case 2: return w.taxes;
            case 3:
                for (Part p : w.parts) sum += sum(p.held);
                return sum;
            case 4:
                for (Person p : w.people) sum += p.purse;
                return sum;
            case 5:
                for (Klass k : w.klasses) sum += k.stock;
                return sum;
            case 6:
                for (Person p : w.people) sum += p.debt;
                return sum;
            case 7: return w.paidForShares + w.yielded;
            case 8: return w.people.size();
            case 9: return w.klasses.size();
            case 10: return w.parts.size();
            default: return NO;
        }
    }

    long keep() {
        kept = w.copy();
        return 1;
    }

    long back() {
        if (kept == null) return NO;
        w = kept.copy();
        return 1;
    }
}
