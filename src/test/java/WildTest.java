import java.util.Random;

/** Any arguments in any state: no call throws, none that only tells changes anything, answers stay the same. */
public final class WildTest {
    private static final int[] EDGES = { 0, 1, -1, 2, -2, 3, 5, 6, 9, 10, 11, 12, 20, 21, 31, 32, 33, 63, 64, 99, 100,
        101, 111, 112, 400, 401, 999, 1000, 1001, 9998, 9999, 10000, 9999998, 9999999, 10000000,
        Integer.MAX_VALUE, Integer.MIN_VALUE, Integer.MAX_VALUE - 1, Integer.MIN_VALUE + 1 };

    private static Random chance;

    public static void main(String[] args) {
        for (int seed = 0; seed < 600; seed++) {
            long first = run(seed);
            Check.due("the same answers again, seed " + seed, run(seed), first);
        }
        Check.finish();
    }

    private static int any() {
        int roll = chance.nextInt(8);
        if (roll < 3) {
            return chance.nextInt(13);
        }
        if (roll < 5) {
            return EDGES[chance.nextInt(EDGES.length)];
        }
        return roll == 5 ? chance.nextInt() : chance.nextInt(roll == 6 ? 3000 : 10000000);
    }

    /** A twin gets the calls that change something, and none that only tells. */
    private static long run(int seed) {
        chance = new Random(seed);
        ExitFalls x = new ExitFalls();
        ExitFalls twin = new ExitFalls();
        long sum = 0;
        if (seed % 5 > 0) {
            Texts texts = new Texts(chance, seed % 3);
            String text = texts.text(chance.nextInt(4), chance.nextInt(4), chance.nextInt(7));
            sum = Check.read(x, text);
            Check.due("text", Check.read(twin, text), sum);
        }
        for (int i = 0; i < 150; i++) {
            if (chance.nextInt(4) == 0) {
                long next = chance.nextLong();
                chance = new Random(next);
                long answer = change(x);
                chance = new Random(next);
                Check.due("the twin's answer", change(twin), answer);
                sum = sum * 31 + answer;
            } else {
                sum = sum * 31 + tell(x);
            }
        }
        Check.due("nothing changed by calls that tell, seed " + seed, picture(x), picture(twin));
        return sum;
    }

    private static long change(ExitFalls x) {
        switch (chance.nextInt(12)) {
            case 0: return x.feed(any(), any(), any(), any(), any());
            case 1: return x.feed(0x636f6d6d, 0x6f6e2061, 0x20343b20, 0x20202020, 0x20202020);
            case 2: return x.end(any());
            case 3: return chance.nextInt(12) == 0 ? x.text() : 0;
            case 4: return x.close(any(), any());
            case 5: return x.release(any(), chance.nextBoolean());
            case 6: return x.guess(any(), any());
            case 7: return x.grant(any(), any());
            case 8: return x.waive(any(), chance.nextBoolean()) ? 1 : 0;
            case 9: return x.rank(any(), any());
            case 10: return x.close(chance.nextInt(10000000), chance.nextInt(101));
            default: return x.undo() ? 1 : 0;
        }
    }

    private static long picture(ExitFalls x) {
        long sum = 0;
        for (int what = 0; what < 6; what++) {
            sum = sum * 31 + x.about(what);
        }
        for (int h = 0; h < 12; h++) {
            for (int what = 0; what <= 10; what++) {
                sum = sum * 31 + x.holder(h, what);
            }
            sum = sum * 31 + x.sale(10 + h) + x.sale(h);
        }
        return sum * 31 + x.fault(0) + 7L * x.fault(1);
    }

    private static long tell(ExitFalls x) {
        int which = chance.nextInt(25);
        int[] n = { any(), any(), any(), any() };
        long answer = which < 12 ? tellOfFalls(x, which, n) : tellMore(x, which, n);
        long again = which < 12 ? tellOfFalls(x, which, n) : tellMore(x, which, n);
        Check.due("again the same, call " + which, again, answer);
        return answer;
    }

    private static long tellOfFalls(ExitFalls x, int which, int[] n) {
        switch (which) {
            case 0: return x.fault(n[0]);
            case 1: return x.about(n[0]);
            case 2: return x.holder(n[0], n[1]);
            case 3: return x.has(n[0], n[1], n[2] & 1);
            case 4: return x.state(n[0], n[1]);
            case 5: return x.paid(n[0], n[1]);
            case 6: return x.level(n[0], n[1] & 1);
            case 7: return x.least(n[0], n[1]);
            case 8: return x.flat(n[0], n[1], n[2] & 1);
            case 9: return x.unpaid(n[0]);
            case 10: return x.wants(n[0], n[1], n[2]);
            default: return x.dilutes(n[0], n[1], n[2], n[3]);
        }
    }

    private static long tellMore(ExitFalls x, int which, int[] n) {
        switch (which) {
            case 12: return x.prefers(n[0], n[1]);
            case 13: return x.votes(n[0]);
            case 14: return x.passes(n[0], n[1]);
            case 15: return x.breaks(n[0], n[1] & 3);
            case 16: return x.part(n[0], n[1], n[2] & 1);
            case 17: return x.chosen(n[0], n[1], n[2], n[3] & 1);
            case 18: return x.steady(n[0], n[1]);
            case 19: return x.steadies(n[0], n[1]);
            case 20: return x.sale(n[0]);
            case 21: return x.mean(n[0]);
            case 22: return x.multiple(n[0], n[1]);
            case 23: return x.yields(n[0], n[1], n[2]);
            default: return x.has(n[0], n[1], n[2]);
        }
    }
}
