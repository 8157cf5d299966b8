import java.util.ArrayDeque;
import java.util.Deque;
import java.util.Random;
import java.util.function.ToLongFunction;

/** Promises 32 to 35: acts, by hand, and by chance against objects without what was undone. */
public final class ActsTest {
    private static final String TEXT = "common f 100; class s 50 at 2 rank 0; option o 50 at 3; class t 9 at 9 rank 1 sharing cap 300;";

    public static void main(String[] args) {
        grants();
        waives();
        ranks();
        twelveAreKept();
        for (int seed = 0; seed < 300; seed++) {
            byChance(new Random(seed));
        }
        Check.finish();
    }

    private static void grants() {
        ExitFalls x = Check.firm(TEXT, 4);
        Check.due("grant", x.grant(0, 1), 101);
        Check.due("grant 0", x.grant(0, 0), -1);
        Check.due("grant -1", x.grant(0, -1), -1);
        Check.due("grant too many", x.grant(0, 9899), -1);
        Check.due("grant the most", x.grant(0, 9898), 9999);
        Check.due("grant one more", x.grant(0, 1), -1);
        Check.due("grant very many", x.grant(0, Integer.MAX_VALUE), -1);
        Check.due("grant none such", x.grant(4, 1), -1);
        Check.due("grant none such", x.grant(-1, 1), -1);
        Check.due("acts", x.about(2), 2);
        Check.due("grant of an option", x.grant(2, 9), 59);
        Check.due("grant of a class", x.grant(1, 9), 59);
        Check.due("undo", x.undo() && x.undo() && x.undo(), true);
        Check.due("shares", x.holder(0, 1), 101);
        Check.due("shares", x.holder(1, 1), 50);
    }

    private static void waives() {
        ExitFalls x = Check.firm(TEXT, 4);
        Check.due("not waived", x.waive(1, false), false);
        Check.due("waive", x.waive(1, true), true);
        Check.due("waive again", x.waive(1, true), false);
        Check.due("waive another", x.waive(3, true), true);
        Check.due("bits", x.about(5), 10);
        Check.due("pref", x.holder(1, 10), 0);
        Check.due("unpaid", x.unpaid(0), -1);
        Check.due("no more", x.waive(1, false), true);
        Check.due("bits", x.about(5), 8);
        Check.due("pref", x.holder(1, 10), 200);
        Check.due("common", x.waive(0, true), false);
        Check.due("option", x.waive(2, true), false);
        Check.due("none", x.waive(4, true), false);
        Check.due("none", x.waive(-1, true), false);
        Check.due("none", x.waive(33, true), false);
        Check.due("acts", x.about(2), 3);
        x.undo();
        Check.due("bits", x.about(5), 10);
        x.undo();
        Check.due("bits", x.about(5), 2);
    }

    private static void ranks() {
        ExitFalls x = Check.firm(TEXT, 4);
        Check.due("rank", x.rank(1, 5), 0);
        Check.due("rank now", x.holder(1, 3), 5);
        Check.due("t comes first", x.has(1, 81, 0), 0);
        Check.due("so again", x.rank(1, 5), -1);
        Check.due("6", x.rank(1, 6), -1);
        Check.due("-1", x.rank(1, -1), -1);
        Check.due("common", x.rank(0, 3), -1);
        Check.due("option", x.rank(2, 3), -1);
        Check.due("none", x.rank(4, 3), -1);
        Check.due("rank back", x.rank(1, 0), 5);
        Check.due("acts", x.about(2), 2);
        x.undo();
        Check.due("rank", x.holder(1, 3), 5);
        x.undo();
        Check.due("rank", x.holder(1, 3), 0);
        Check.due("nothing left", x.undo(), false);
    }

    private static void twelveAreKept() {
        ExitFalls x = Check.firm(TEXT, 4);
        for (int i = 1; i <= 20; i++) {
            Check.due("grant", x.grant(0, 1), 100 + i);
            Check.due("acts", x.about(2), Math.min(i, 12));
        }
        for (int i = 1; i <= 12; i++) {
            Check.due("undo", x.undo(), true);
            Check.due("shares", x.holder(0, 1), 120 - i);
        }
        Check.due("the oldest are gone", x.undo(), false);
        Check.due("shares", x.holder(0, 1), 108);
        Check.due("acts", x.about(2), 0);
    }

    private static String picture(ExitFalls x) {
        StringBuilder all = new StringBuilder();
        for (int h = 0; h < 4; h++) {
            for (int what = 0; what <= 10; what++) {
                all.append(x.holder(h, what)).append(' ');
            }
            all.append(x.mean(h)).append(' ').append(x.sale(10 + h)).append(' ');
        }
        for (int what = 0; what < 4; what++) {
            all.append(x.sale(what)).append(' ');
        }
        return all.append(x.about(4)).append(' ').append(x.about(5)).toString();
    }

    /** ACTS by chance; what is in force is done once more on a new object, which must look alike. */
    private static void byChance(Random chance) {
        ExitFalls x = Check.firm(TEXT, 4);
        Deque<ToLongFunction<ExitFalls>> inForce = new ArrayDeque<>();
        int kept = 0;
        for (int i = 1; i <= 80; i++) {
            if (chance.nextInt(9) < 2) {
                Check.due("undo", x.undo(), kept > 0);
                if (kept > 0) {
                    inForce.removeLast();
                    kept--;
                }
            } else {
                ToLongFunction<ExitFalls> act = someAct(chance);
                if (act.applyAsLong(x) >= 0) {
                    inForce.addLast(act);
                    kept = Math.min(kept + 1, 12);
                }
            }
            Check.due("acts", x.about(2), kept);
            if (i % 16 == 0) {
                Made again = Made.of(TEXT);
                inForce.forEach(again::then);
                String want = picture(again.object());
                Check.due("as it is due: " + want, picture(x).equals(want), true);
            }
        }
    }

    /** Its answer is below 0 if it did nothing. */
    private static ToLongFunction<ExitFalls> someAct(Random chance) {
        int a = chance.nextInt(5000) - 100;
        int b = chance.nextInt(1100);
        int h = chance.nextInt(5);
        int rank = chance.nextInt(7);
        boolean is = chance.nextBoolean();
        switch (chance.nextInt(7)) {
            case 0: return x -> x.close(a, b / 10 - 4);
            case 1: return x -> x.release(b / 4, false);
            case 2: return x -> x.release(b / 4, true);
            case 3: return x -> x.guess(a, b);
            case 4: return x -> x.grant(h, b);
            case 5: return x -> x.waive(h, is) ? 0 : -1;
            default: return x -> x.rank(h, rank);
        }
    }
}
