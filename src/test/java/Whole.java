import java.util.ArrayDeque;
import java.util.ArrayList;
import java.util.Arrays;
import java.util.Deque;
import java.util.List;
import java.util.function.IntPredicate;

/** The whole document once more, call by call under the same names: what is reckoned by the Model, what is told by the TextModel. */
public final class Whole {
    private static final int MOST = 9999999;
    private static final Rat HUNDRED = Rat.of(100);

    Model model = new Model();
    private byte[] tape = new byte[0];
    private int fault;
    private int place = -1;
    /** AMOUNT, HELD, DEALT, lost; null without a SALE. */
    private int[] deal;
    private final List<int[]> guesses = new ArrayList<>();
    private final Deque<Runnable> acts = new ArrayDeque<>();

    public int feed(int a, int b, int c, int d, int e) {
        if (tape.length > 680) {
            return -1;
        }
        int[] five = { a, b, c, d, e };
        int old = tape.length;
        tape = Arrays.copyOf(tape, old + 20);
        for (int i = 0; i < 20; i++) {
            tape[old + i] = (byte) (five[i / 4] >> 8 * (3 - i % 4));
        }
        return tape.length;
    }

    public int end(int n) {
        if (n < 0 || n > tape.length) {
            return -1;
        }
        tape = Arrays.copyOf(tape, n);
        return n;
    }

    public int text() {
        TextModel read = new TextModel(tape);
        tape = new byte[0];
        fault = read.fault;
        place = read.place;
        if (fault != 0) {
            return -1;
        }
        model = read.model;
        deal = null;
        guesses.clear();
        acts.clear();
        return model.holders.size();
    }

    public int fault(int what) {
        return what == 0 ? fault : what == 1 ? place : -1;
    }

    public int about(int what) {
        int waived = 0;
        for (int h = 0; h < model.holders.size(); h++) {
            waived |= model.holders.get(h).waived ? 1 << h : 0;
        }
        int[] all = { model.holders.size(), model.carve, acts.size(), tape.length, guesses.size(), waived };
        return what >= 0 && what < all.length ? all[what] : -1;
    }

    public int holder(int h, int what) {
        if (!isHolder(h)) {
            return -2;
        }
        Model.Holder m = model.holders.get(h);
        int[] all = { m.kind, m.shares, m.price, m.rank, m.times, m.ratio, m.sharing ? 1 : 0, m.cap,
            m.rate, m.years, (int) m.pref().floor() };
        return what >= 0 && what < (m.kind == 0 ? 2 : m.kind == 1 ? 3 : 11) ? all[what] : -2;
    }

    public long has(int h, int amount, int what) {
        return isHolder(h) && isAmount(amount) ? told(model.has(amount)[h], what) : -2;
    }

    public int state(int h, int amount) {
        return isHolder(h) && isAmount(amount) ? model.state(h, amount) : -2;
    }

    public int paid(int h, int amount) {
        return isHolder(h) && isAmount(amount) ? model.paid(amount)[h] : -2;
    }

    public long level(int amount, int what) {
        return isAmount(amount) && !model.holders.isEmpty() ? told(model.level(amount), what) : -2;
    }

    public int least(int h, int n) {
        return isHolder(h) && isUnits(n) ? first(0, MOST, a -> hasUnits(h, a, n)) : -2;
    }

    public int flat(int h, int amount, int what) {
        if (!isHolder(h) || !isAmount(amount) || what < 0 || what > 1) {
            return -2;
        }
        Rat mine = model.has(amount)[h];
        if (what == 0) {
            return first(0, amount, a -> model.has(a)[h].equals(mine));
        }
        int beyond = first(amount, MOST, a -> !model.has(a)[h].equals(mine));
        return beyond < 0 ? MOST : beyond - 1;
    }

    public int unpaid(int amount) {
        return isAmount(amount) ? model.unpaid(amount) : -2;
    }

    public int wants(int h, int amount, int n) {
        if (!isClass(h) || !isAmount(amount) || !isUnits(n)) {
            return -2;
        }
        Model.Holder m = model.holders.get(h);
        int told = m.times;
        int found = first(0, 400, times -> {
            m.times = times;
            return hasUnits(h, amount, n);
        });
        m.times = told;
        return found;
    }

    public int dilutes(int h, int amount, int other, int n) {
        if (!isHolder(h) || !isAmount(amount) || !isHolder(other) || n < 1 || n > 9999 - model.holders.get(other).shares) {
            return -1000000000;
        }
        int now = model.paid(amount)[h];
        model.holders.get(other).shares += n;
        int then = model.paid(amount)[h];
        model.holders.get(other).shares -= n;
        return now - then;
    }

    public int prefers(int amount, int other) {
        return isAmount(amount) && isAmount(other) ? model.prefers(amount, other) : -2;
    }

    public int votes(int set) {
        return model.votes(set);
    }

    public int passes(int amount, int other) {
        int more = prefers(amount, other);
        return more == -2 ? -2 : 2 * model.votes(more) > model.votes(-1) ? 1 : 0;
    }

    public long breaks(int k, int what) {
        List<Rat> all = model.breaks();
        return k == -1 ? all.size() : k >= 0 && k < all.size() ? told(all.get(k), what) : -2;
    }

    public long part(int h, int k, int what) {
        return isHolder(h) && k >= 0 && k <= model.breaks().size() ? told(model.part(h, k), what) : -2;
    }

    public long chosen(int set, int h, int amount, int what) {
        return isHolder(h) && isAmount(amount) ? told(model.chosen(set, amount)[h], what) : -2;
    }

    public int steady(int set, int amount) {
        return !isAmount(amount) ? -2 : model.steady(set, amount) ? 1 : 0;
    }

    public int steadies(int amount, int k) {
        if (!isAmount(amount)) {
            return -2;
        }
        List<Integer> all = model.steadies(amount);
        return k == -1 ? all.size() : k >= 0 && k < all.size() ? all.get(k) : -1;
    }

    public int close(int amount, int held) {
        if (!isAmount(amount) || held < 0 || held > 100) {
            return -1;
        }
        int kept = (int) Rat.of((long) amount * held, 100).floor();
        changeDeal(new int[] { amount, kept, amount - kept, 0 });
        return amount - kept;
    }

    public int release(int n, boolean lost) {
        if (deal == null || n < 1 || n > deal[1]) {
            return -1;
        }
        changeDeal(new int[] { deal[0], deal[1] - n, deal[2] + (lost ? 0 : n), deal[3] + (lost ? n : 0) });
        return deal[1];
    }

    private void changeDeal(int[] next) {
        int[] before = deal;
        deal = next;
        keep(() -> deal = before);
    }

    public int sale(int what) {
        if (deal == null) {
            return -2;
        }
        if (what >= 0 && what < 4) {
            return deal[what];
        }
        if (what >= 10 && isHolder(what - 10)) {
            return model.paid(deal[2])[what - 10];
        }
        if (what >= 100 && isHolder(what - 100)) {
            return model.paid(deal[2] + deal[1])[what - 100] - model.paid(deal[2])[what - 100];
        }
        return -2;
    }

    public int guess(int amount, int weight) {
        if (!isAmount(amount) || weight < 1 || weight > 1000 || guesses.size() == 8) {
            return -1;
        }
        guesses.add(new int[] { amount, weight });
        keep(() -> guesses.remove(guesses.size() - 1));
        return guesses.size();
    }

    public long mean(int h) {
        if (!isHolder(h)) {
            return -2;
        }
        double sum = 0.0;
        int all = 0;
        for (int[] one : guesses) {
            sum += (double) one[1] * asDouble(model.has(one[0])[h]);
            all += one[1];
        }
        return guesses.isEmpty() ? 0 : Double.doubleToRawLongBits(sum / (double) all);
    }

    public int multiple(int h, int amount) {
        if (!isClass(h) || !isAmount(amount)) {
            return -2;
        }
        Rat has = model.has(amount)[h];
        float worth = (float) has.up.longValueExact() / (float) has.down.longValueExact();
        return Float.floatToRawIntBits(worth / (float) cost(h));
    }

    public int yields(int h, int amount, int y) {
        if (!isClass(h) || !isAmount(amount) || y < 1 || y > 20) {
            return -2;
        }
        double worth = asDouble(model.has(amount)[h]);
        for (int r = 999; r >= 0; r--) {
            double grown = (double) cost(h);
            for (int i = 0; i < y; i++) {
                grown = grown * (1.0 + r / 100.0);
            }
            if (grown <= worth) {
                return r;
            }
        }
        return -1;
    }

    public int grant(int h, int n) {
        if (!isHolder(h) || n < 1 || n > 9999 - model.holders.get(h).shares) {
            return -1;
        }
        Model.Holder m = model.holders.get(h);
        m.shares += n;
        keep(() -> m.shares -= n);
        return m.shares;
    }

    public boolean waive(int h, boolean is) {
        if (!isClass(h) || model.holders.get(h).waived == is) {
            return false;
        }
        Model.Holder m = model.holders.get(h);
        m.waived = is;
        keep(() -> m.waived = !is);
        return true;
    }

    public int rank(int h, int rank) {
        if (!isClass(h) || rank < 0 || rank > 5 || model.holders.get(h).rank == rank) {
            return -1;
        }
        Model.Holder m = model.holders.get(h);
        int before = m.rank;
        m.rank = rank;
        keep(() -> m.rank = before);
        return before;
    }

    public boolean undo() {
        if (acts.isEmpty()) {
            return false;
        }
        acts.removeLast().run();
        return true;
    }

    private void keep(Runnable takesBack) {
        acts.addLast(takesBack);
        if (acts.size() > 12) {
            acts.removeFirst();
        }
    }

    private boolean isHolder(int h) {
        return h >= 0 && h < model.holders.size();
    }

    private boolean isClass(int h) {
        return isHolder(h) && model.holders.get(h).kind == 2;
    }

    private static boolean isAmount(int amount) {
        return amount >= 0 && amount <= MOST;
    }

    private static boolean isUnits(int n) {
        return n >= 1 && n <= MOST;
    }

    private boolean hasUnits(int h, int amount, int n) {
        return model.has(amount)[h].compareTo(HUNDRED.times(Rat.of(n))) >= 0;
    }

    private int cost(int h) {
        return model.holders.get(h).price * model.holders.get(h).shares * 100;
    }

    private static double asDouble(Rat r) {
        return (double) r.up.longValueExact() / (double) r.down.longValueExact();
    }

    private static long told(Rat r, int what) {
        return what == 0 ? r.up.longValueExact() : what == 1 ? r.down.longValueExact() : -2;
    }

    /** The first of what becomes true once and stays so; -1 if none is. */
    private static int first(int from, int to, IntPredicate is) {
        int low = from;
        int high = to + 1;
        while (low < high) {
            int middle = (low + high) >>> 1;
            if (is.test(middle)) {
                high = middle;
            } else {
                low = middle + 1;
            }
        }
        return low <= to ? low : -1;
    }
}
