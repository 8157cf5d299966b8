import java.util.List;
import java.util.Random;

/** Firms by chance: every call against the Model, for promises 7 to 24 and 29 to 34. */
public final class ModelTest {
    private static Random chance;
    private static Made made;
    private static ExitFalls x;
    private static Model model;
    private static String said;

    public static void main(String[] args) {
        mostBreaks();
        int rounds = args.length > 0 ? Integer.parseInt(args[0]) : 400;
        int seed = args.length > 1 ? Integer.parseInt(args[1]) : 0;
        for (int round = 0; round < rounds; round++) {
            chance = new Random(seed * 1000003L + round);
            oneFirm(round % 3);
        }
        Check.finish();
    }

    /** Six RANKS, three STRIKES, six TOPS that are come to twice. */
    private static void mostBreaks() {
        StringBuilder text = new StringBuilder("common x 100; common y 7; common z 9;");
        for (int i = 0; i < 6; i++) {
            text.append("class c").append((char) ('a' + i)).append(" 10 at ").append(10 + i).append(" rank ").append(i)
                .append(" ratio ").append(50 + 17 * i).append(" sharing cap ").append(150 + 31 * i).append(";");
        }
        text.append("option r 5 at 77; option s 6 at 88; option t 7 at 99; carve 5;");
        chance = new Random(5);
        look(text.toString());
        Check.due("the most breaks", x.breaks(-1, 0), 21);
        for (int h = 0; h < 12; h++) {
            x = made.object();
            for (int k = 0; k <= 21; k++) {
                same("part " + h + " " + k, x.part(h, k, 0), x.part(h, k, 1), model.part(h, k));
            }
        }
    }

    private static void oneFirm(int size) {
        Texts texts = new Texts(chance, size);
        look(texts.text(chance.nextInt(4), chance.nextInt(4), chance.nextInt(7)));
    }

    private static void look(String text) {
        model = new TextModel(text.getBytes()).model;
        made = Made.of(text);
        x = made.object();
        said = text;
        Check.due("holders of " + text, x.about(0), model.holders.size());
        Check.due("carve of " + text, x.about(1), model.carve);
        int count = model.holders.size();
        for (int i = 0; i < 3 && count > 0; i++) {
            changeOne(chance.nextInt(count));
        }
        facts();
        x = made.object();
        breaks();
        for (int i = 0; i < 4; i++) {
            x = made.object();
            amount(someAmount());
        }
        x = made.object();
        worth();
    }

    private static int someAmount() {
        List<Rat> breaks = model.breaks();
        int roll = chance.nextInt(6);
        if (roll < 4 && !breaks.isEmpty()) {
            long near = breaks.get(chance.nextInt(breaks.size())).by(Rat.of(100 - model.carve)).floor();
            return (int) Math.max(0, Math.min(9999999, near + chance.nextInt(5) - 2));
        }
        return roll == 4 ? chance.nextInt(2000) : chance.nextInt(10000000);
    }

    private static void changeOne(int h) {
        Model.Holder holder = model.holders.get(h);
        switch (chance.nextInt(4)) {
            case 0:
                boolean is = chance.nextBoolean();
                boolean can = holder.kind == 2 && holder.waived != is;
                Check.due("waive " + said, x.waive(h, is), can);
                made.then(y -> y.waive(h, is) ? 1 : 0);
                holder.waived = can ? is : holder.waived;
                break;
            case 1:
                int rank = chance.nextInt(8) - 1;
                boolean moves = holder.kind == 2 && rank >= 0 && rank <= 5 && rank != holder.rank;
                Check.due("rank " + said, x.rank(h, rank), moves ? holder.rank : -1);
                made.then(y -> y.rank(h, rank));
                holder.rank = moves ? rank : holder.rank;
                break;
            case 2:
                int n = chance.nextInt(100);
                boolean gets = n > 0 && holder.shares + n <= 9999;
                Check.due("grant " + said, x.grant(h, n), gets ? holder.shares + n : -1);
                made.then(y -> y.grant(h, n));
                holder.shares = gets ? holder.shares + n : holder.shares;
                break;
            default:
                break;
        }
    }

    private static void facts() {
        for (int h = 0; h < model.holders.size(); h++) {
            Model.Holder m = model.holders.get(h);
            int[] facts = { m.kind, m.shares, m.price, m.rank, m.times, m.ratio, m.sharing ? 1 : 0, m.cap,
                m.rate, m.years, (int) m.pref().floor() };
            int last = m.kind == 0 ? 1 : m.kind == 1 ? 2 : 10;
            for (int what = -1; what < 12; what++) {
                boolean is = what >= 0 && what <= last;
                Check.due("holder " + h + " " + what + " of " + said, x.holder(h, what), is ? facts[what] : -2);
            }
        }
    }

    private static void same(String call, long above, long below, Rat want) {
        Check.fraction(call + " of " + said, above, below, want.up.longValueExact(), want.down.longValueExact());
    }

    private static void breaks() {
        List<Rat> breaks = model.breaks();
        Check.due("breaks of " + said, x.breaks(-1, 7), breaks.size());
        for (int k = 0; k < breaks.size(); k++) {
            same("break " + k, x.breaks(k, 0), x.breaks(k, 1), breaks.get(k));
        }
        for (int h = 0; h < model.holders.size(); h++) {
            int k = chance.nextInt(breaks.size() + 1);
            same("part " + h + " " + k, x.part(h, k, 0), x.part(h, k, 1), model.part(h, k));
        }
    }

    private static void amount(int amount) {
        String by = " by " + amount;
        Rat[] has = model.has(amount);
        int[] paid = model.paid(amount);
        long sum = 0;
        for (int h = 0; h < has.length; h++) {
            same("has " + h + by, x.has(h, amount, 0), x.has(h, amount, 1), has[h]);
            Check.due("state " + h + by + " of " + said, x.state(h, amount), model.state(h, amount));
            Check.due("paid " + h + by + " of " + said, x.paid(h, amount), paid[h]);
            sum += paid[h];
        }
        if (has.length > 0) {
            Check.due("all paid" + by + " of " + said, sum, model.falls(amount));
            same("level" + by, x.level(amount, 0), x.level(amount, 1), model.level(amount));
            searches(chance.nextInt(has.length), amount, has);
            dilutes(chance.nextInt(has.length), chance.nextInt(has.length), amount, paid);
        }
        Check.due("unpaid" + by + " of " + said, x.unpaid(amount), model.unpaid(amount));
        int other = chance.nextBoolean() ? someAmount() : Math.max(0, Math.min(9999999, amount + chance.nextInt(5) - 2));
        int more = model.prefers(amount, other);
        Check.due("prefers" + by + " " + other + " of " + said, x.prefers(amount, other), more);
        boolean passes = model.votes(more) > model.votes(~more);
        Check.due("passes" + by + " " + other + " of " + said, x.passes(amount, other), passes ? 1 : 0);
        choices(amount);
    }

    private static void searches(int h, int amount, Rat[] has) {
        String by = " " + h + " by " + amount + " of " + said;
        int n = (int) Math.max(1, Math.min(9999999, has[h].by(Rat.of(100)).floor() + chance.nextInt(3) - 1));
        int least = x.least(h, n);
        Rat units = Rat.of(n * 100L);
        if (least == -1) {
            Check.due("least none" + by, model.has(9999999)[h].compareTo(units) < 0, true);
        } else {
            Check.due("least" + by, model.has(least)[h].compareTo(units) >= 0, true);
            Check.due("least less" + by, least == 0 || model.has(least - 1)[h].compareTo(units) < 0, true);
        }
        int from = x.flat(h, amount, 0);
        int to = x.flat(h, amount, 1);
        Check.due("flat" + by, from <= amount && amount <= to, true);
        Check.due("flat ends" + by, model.has(from)[h].equals(has[h]) && model.has(to)[h].equals(has[h]), true);
        Check.due("flat from" + by, from == 0 || !model.has(from - 1)[h].equals(has[h]), true);
        Check.due("flat to" + by, to == 9999999 || !model.has(to + 1)[h].equals(has[h]), true);
        wants(h, amount, n);
    }

    private static void wants(int h, int amount, int n) {
        Model.Holder holder = model.holders.get(h);
        int got = x.wants(h, amount, n);
        if (holder.kind != 2) {
            Check.due("wants of no class", got, -2);
            return;
        }
        int told = holder.times;
        int want = -1;
        for (int times = 0; times <= 400 && want < 0; times++) {
            holder.times = times;
            if (model.has(amount)[h].compareTo(Rat.of(n * 100L)) >= 0) {
                want = times;
            }
        }
        holder.times = told;
        Check.due("wants " + h + " " + amount + " " + n + " of " + said, got, want);
        Check.due("times stay", x.holder(h, 4), told);
    }

    private static void dilutes(int h, int other, int amount, int[] paid) {
        int n = chance.nextInt(2000);
        Model.Holder holder = model.holders.get(other);
        int got = x.dilutes(h, amount, other, n);
        if (n < 1 || holder.shares + n > 9999) {
            Check.due("dilutes too much", got, -1000000000);
            return;
        }
        holder.shares += n;
        Check.due("dilutes " + said, got, paid[h] - model.paid(amount)[h]);
        holder.shares -= n;
        Check.due("shares stay", x.holder(other, 1), holder.shares);
    }

    private static void choices(int amount) {
        int set = chance.nextInt();
        Rat[] chosen = model.chosen(set, amount);
        for (int h = 0; h < chosen.length; h++) {
            same("chosen " + set + " " + h + " by " + amount,
                x.chosen(set, h, amount, 0), x.chosen(set, h, amount, 1), chosen[h]);
        }
        Check.due("steady " + set + " by " + amount + " of " + said, x.steady(set, amount), model.steady(set, amount) ? 1 : 0);
        if (chance.nextInt(3) == 0) {
            List<Integer> steadies = model.steadies(amount);
            Check.due("steadies by " + amount + " of " + said, x.steadies(amount, -1), steadies.size());
            for (int k = 0; k <= steadies.size(); k++) {
                int want = k < steadies.size() ? steadies.get(k) : -1;
                Check.due("steadies " + k + " by " + amount + " of " + said, x.steadies(amount, k), want);
            }
        }
    }

    private static double asDouble(Rat r) {
        return (double) r.up.longValueExact() / (double) r.down.longValueExact();
    }

    private static void worth() {
        int guesses = chance.nextInt(9);
        int[] amounts = new int[guesses];
        int[] weights = new int[guesses];
        for (int i = 0; i < guesses; i++) {
            amounts[i] = someAmount();
            weights[i] = 1 + chance.nextInt(1000);
            Check.due("guess", x.guess(amounts[i], weights[i]), i + 1);
        }
        for (int h = 0; h < model.holders.size(); h++) {
            double sum = 0.0;
            int all = 0;
            for (int i = 0; i < guesses; i++) {
                sum += weights[i] * asDouble(model.has(amounts[i])[h]);
                all += weights[i];
            }
            long want = guesses == 0 ? 0 : Double.doubleToRawLongBits(sum / all);
            Check.due("mean " + h + " of " + said, x.mean(h), want);
            multiples(h, someAmount());
        }
    }

    private static void multiples(int h, int amount) {
        Model.Holder holder = model.holders.get(h);
        int y = 1 + chance.nextInt(20);
        if (holder.kind != 2) {
            Check.due("multiple of no class", x.multiple(h, amount), -2);
            Check.due("yields of no class", x.yields(h, amount, y), -2);
            return;
        }
        Rat has = model.has(amount)[h];
        int cost = holder.price * holder.shares * 100;
        float worth = (float) has.up.longValueExact() / (float) has.down.longValueExact();
        Check.due("multiple " + h + " by " + amount + " of " + said, x.multiple(h, amount),
            Float.floatToRawIntBits(worth / (float) cost));
        int best = -1;
        for (int r = 0; r <= 999; r++) {
            double grown = cost;
            for (int i = 0; i < y; i++) {
                grown *= 1.0 + r / 100.0;
            }
            best = grown <= asDouble(has) ? r : best;
        }
        Check.due("yields " + h + " by " + amount + " " + y + " of " + said, x.yields(h, amount, y), best);
    }
}
