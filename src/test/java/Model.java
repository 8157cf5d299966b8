import java.util.ArrayList;
import java.util.Collections;
import java.util.List;
import java.util.TreeSet;

/**
 * The document's words once more, in the plainest way and with fractions of any size: a LEVEL is
 * found between the LEVELS at which something changes by looking at what all have at both of them.
 */
final class Model {
    static final class Holder {
        int kind;
        int shares;
        int price;
        int rank;
        int times = 100;
        int ratio = 100;
        boolean sharing;
        int cap = -1;
        int rate;
        int years;
        boolean waived;

        Rat pref() {
            return Rat.of(kind != 2 || waived ? 0 : (long) price * (times + rate * years));
        }

        Rat top() {
            return Rat.of((long) price * cap).max(pref());
        }

        Rat all() {
            return pref().times(Rat.of(shares));
        }

        boolean canTurn() {
            return kind == 2 && !(sharing && cap < 0);
        }

        /** What a SHARE has by a LEVEL. */
        Rat share(Rat v) {
            Rat x = v.times(Rat.of(ratio, 100));
            if (kind == 0) {
                return v;
            }
            if (kind == 1) {
                return v.minus(Rat.of(price * 100L)).max(Rat.ZERO);
            }
            if (!sharing) {
                return pref().max(x);
            }
            if (cap < 0) {
                return pref().plus(x);
            }
            return x.compareTo(top()) > 0 ? x : pref().plus(x).min(top());
        }

        /** What a SHARE has by a LEVEL, if it TURNS or not. */
        Rat share(Rat v, boolean turns) {
            if (!canTurn()) {
                return share(v);
            }
            Rat x = v.times(Rat.of(ratio, 100));
            if (turns) {
                return x;
            }
            return sharing ? pref().plus(x).min(top()) : pref();
        }

        int votes() {
            return kind == 0 ? shares : kind == 1 ? 0 : shares * ratio / 100;
        }
    }

    final List<Holder> holders = new ArrayList<>();
    int carve;

    long falls(int amount) {
        return amount - (long) amount * carve / 100;
    }

    Rat[] has(int amount) {
        return dealt(Rat.of(falls(amount) * 100), false, 0);
    }

    Rat[] chosen(int set, int amount) {
        return dealt(Rat.of(falls(amount) * 100), true, set);
    }

    private boolean turns(int h, boolean told, int set) {
        return told && holders.get(h).canTurn() && (set >> h & 1) == 1;
    }

    private Rat prefs(int h, boolean told, int set) {
        return turns(h, told, set) ? Rat.ZERO : holders.get(h).all();
    }

    Rat[] dealt(Rat f, boolean told, int set) {
        Rat all = Rat.ZERO;
        for (int h = 0; h < holders.size(); h++) {
            all = all.plus(prefs(h, told, set));
        }
        if (f.compareTo(all) <= 0) {
            return byRanks(f, told, set);
        }
        Rat[] has = new Rat[holders.size()];
        Rat v = levelFor(f, told, set);
        for (int h = 0; h < has.length; h++) {
            has[h] = at(h, v, told, set);
        }
        return has;
    }

    private Rat[] byRanks(Rat f, boolean told, int set) {
        Rat[] has = new Rat[holders.size()];
        java.util.Arrays.fill(has, Rat.ZERO);
        Rat left = f;
        for (int rank = 0; rank <= 5; rank++) {
            Rat sum = Rat.ZERO;
            for (int h = 0; h < has.length; h++) {
                if (holders.get(h).kind == 2 && holders.get(h).rank == rank) {
                    sum = sum.plus(prefs(h, told, set));
                }
            }
            Rat gets = sum.min(left);
            for (int h = 0; h < has.length; h++) {
                if (holders.get(h).kind == 2 && holders.get(h).rank == rank && sum.sign() > 0) {
                    has[h] = gets.times(prefs(h, told, set)).by(sum);
                }
            }
            left = left.minus(gets);
        }
        return has;
    }

    private Rat at(int h, Rat v, boolean told, int set) {
        Holder x = holders.get(h);
        return (told ? x.share(v, turns(h, true, set)) : x.share(v)).times(Rat.of(x.shares));
    }

    Rat total(Rat v, boolean told, int set) {
        Rat sum = Rat.ZERO;
        for (int h = 0; h < holders.size(); h++) {
            sum = sum.plus(at(h, v, told, set));
        }
        return sum;
    }

    private TreeSet<Rat> corners() {
        TreeSet<Rat> all = new TreeSet<>();
        all.add(Rat.ZERO);
        for (Holder x : holders) {
            if (x.kind == 1) {
                all.add(Rat.of(x.price * 100L));
            }
            if (x.kind == 2) {
                Rat turn = Rat.of(100, x.ratio);
                all.add(x.pref().times(turn));
                if (x.cap >= 0) {
                    all.add(x.top().times(turn));
                    all.add(x.top().minus(x.pref()).times(turn));
                }
            }
        }
        return all;
    }

    /** The least v by which all have f together; where there is none, one behind all corners. */
    private Rat levelFor(Rat f, boolean told, int set) {
        Rat last = Rat.ZERO;
        for (Rat v : corners()) {
            Rat there = total(v, told, set);
            if (there.compareTo(f) >= 0) {
                Rat before = total(last, told, set);
                return before.equals(there) ? last
                    : last.plus(f.minus(before).times(v.minus(last)).by(there.minus(before)));
            }
            last = v;
        }
        Rat here = total(last, told, set);
        Rat beyond = total(last.plus(Rat.of(1)), told, set).minus(here);
        return beyond.sign() == 0 ? last : last.plus(f.minus(here).by(beyond));
    }

    Rat allPrefs() {
        Rat sum = Rat.ZERO;
        for (Holder x : holders) {
            sum = sum.plus(x.all());
        }
        return sum;
    }

    Rat level(int amount) {
        Rat f = Rat.of(falls(amount) * 100);
        return f.compareTo(allPrefs()) <= 0 ? Rat.ZERO : levelFor(f, false, 0);
    }

    int state(int h, int amount) {
        Holder x = holders.get(h);
        Rat mine = has(amount)[h].by(Rat.of(x.shares));
        if (mine.sign() == 0) {
            return 0;
        }
        if (x.kind != 2) {
            return 4;
        }
        Rat byLevel = level(amount).times(Rat.of(x.ratio, 100));
        Rat bound = x.cap >= 0 ? x.top() : x.pref();
        if (x.canTurn() && byLevel.compareTo(bound) > 0) {
            return 4;
        }
        if (mine.compareTo(x.pref()) <= 0) {
            return 1;
        }
        return x.cap >= 0 && mine.equals(x.top()) ? 3 : 2;
    }

    int[] paid(int amount) {
        Rat[] has = has(amount);
        int[] paid = new int[has.length];
        Rat[] cut = new Rat[has.length];
        long left = falls(amount);
        for (int h = 0; h < has.length; h++) {
            Rat units = has[h].by(Rat.of(100));
            paid[h] = (int) units.floor();
            cut[h] = units.minus(Rat.of(paid[h]));
            left -= paid[h];
        }
        for (; left > 0 && has.length > 0; left--) {
            int best = 0;
            for (int h = 1; h < has.length; h++) {
                if (cut[h].compareTo(cut[best]) > 0) {
                    best = h;
                }
            }
            paid[best]++;
            cut[best] = Rat.of(-1);
        }
        return paid;
    }

    int unpaid(int amount) {
        Rat left = Rat.of(falls(amount) * 100);
        for (int rank = 0; rank <= 5; rank++) {
            for (Holder x : holders) {
                if (x.kind == 2 && x.rank == rank) {
                    left = left.minus(x.all());
                }
            }
            if (left.sign() < 0) {
                return rank;
            }
        }
        return -1;
    }

    List<Rat> breaks() {
        TreeSet<Rat> all = new TreeSet<>();
        for (int rank = 0; rank <= 5; rank++) {
            Rat sum = Rat.ZERO;
            boolean some = false;
            for (Holder x : holders) {
                if (x.kind == 2 && x.rank <= rank) {
                    sum = sum.plus(x.all());
                    some |= x.rank == rank && x.all().sign() > 0;
                }
            }
            if (some) {
                all.add(sum);
            }
        }
        for (Holder x : holders) {
            Rat turn = Rat.of(100, x.ratio);
            if (x.kind == 1) {
                all.add(total(Rat.of(x.price * 100L), false, 0));
            } else if (x.kind == 2 && !x.sharing && x.pref().sign() > 0) {
                all.add(total(x.pref().times(turn), false, 0));
            } else if (x.kind == 2 && x.cap >= 0) {
                all.add(total(x.top().minus(x.pref()).times(turn), false, 0));
                all.add(total(x.top().times(turn), false, 0));
            }
        }
        all.remove(Rat.ZERO);
        return new ArrayList<>(all);
    }

    Rat part(int h, int k) {
        List<Rat> breaks = breaks();
        Rat from = k == 0 ? Rat.ZERO : breaks.get(k - 1);
        Rat to = k < breaks.size() ? breaks.get(k) : from.plus(Rat.of(1000));
        Rat third = to.minus(from).by(Rat.of(3));
        Rat one = dealt(from.plus(third), false, 0)[h];
        return dealt(to.minus(third), false, 0)[h].minus(one).by(third);
    }

    boolean steady(int set, int amount) {
        Rat[] now = chosen(set, amount);
        for (int h = 0; h < now.length; h++) {
            if (holders.get(h).canTurn() && chosen(set ^ 1 << h, amount)[h].compareTo(now[h]) > 0) {
                return false;
            }
        }
        return true;
    }

    List<Integer> steadies(int amount) {
        int can = 0;
        for (int h = 0; h < holders.size(); h++) {
            can |= holders.get(h).canTurn() ? 1 << h : 0;
        }
        List<Integer> all = new ArrayList<>();
        for (int set = can;; set = (set - 1) & can) {
            if (steady(set, amount)) {
                all.add(set);
            }
            if (set == 0) {
                break;
            }
        }
        Collections.sort(all);
        return all;
    }

    int prefers(int amount, int other) {
        Rat[] one = has(amount);
        Rat[] two = has(other);
        int set = 0;
        for (int h = 0; h < one.length; h++) {
            set |= one[h].compareTo(two[h]) > 0 ? 1 << h : 0;
        }
        return set;
    }

    int votes(int set) {
        int sum = 0;
        for (int h = 0; h < holders.size(); h++) {
            sum += (set >> h & 1) * holders.get(h).votes();
        }
        return sum;
    }
}
