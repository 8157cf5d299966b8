/** The edges of promises 8 to 11 and 14, and of the terms that they lean on: each with its neighbours. */
public final class FallEdgesTest {
    private static final String HALVES = " 10 at 10 rank 0";

    public static void main(String[] args) {
        amountsThatCanBe();
        carveIsCutToWholeUnits();
        ranksUntilTheyArePaid();
        rankWithoutPrefsIsPaid();
        prefsPaidJustSo();
        optionAtItsStrike();
        classAtItsPref();
        sharingWithoutCap();
        classAtItsTop();
        topAndPref();
        withoutPref();
        theLeastLevel();
        levelOfOptionsAlone();
        withoutHolders();
        otherWhats();
        lowestTerms();
        paidOfLikeParts();
        paidOfUnlikeParts();
        paidWithCarve();
        theMostOfAll();
        Check.finish();
    }

    private static void has(ExitFalls x, int amount, long... want) {
        for (int h = 0; h < want.length; h++) {
            Check.fraction("has " + h + " by " + amount, x.has(h, amount, 0), x.has(h, amount, 1), want[h], 1);
        }
    }

    private static void states(ExitFalls x, int amount, int... want) {
        for (int h = 0; h < want.length; h++) {
            Check.due("state " + h + " by " + amount, x.state(h, amount), want[h]);
        }
    }

    private static void paid(ExitFalls x, int amount, int... want) {
        for (int h = 0; h < want.length; h++) {
            Check.due("paid " + h + " by " + amount, x.paid(h, amount), want[h]);
        }
    }

    private static void level(ExitFalls x, int amount, long above, long below) {
        Check.fraction("level by " + amount, x.level(amount, 0), x.level(amount, 1), above, below);
    }

    private static void refuses(ExitFalls x, int h, int amount) {
        Check.due("has " + h + " by " + amount, x.has(h, amount, 0), -2);
        Check.due("has " + h + " by " + amount, x.has(h, amount, 1), -2);
        Check.due("state " + h + " by " + amount, x.state(h, amount), -2);
        Check.due("paid " + h + " by " + amount, x.paid(h, amount), -2);
    }

    private static void amountsThatCanBe() {
        ExitFalls x = Check.firm("common f 1; class s 1 at 1 rank 2 times 0;", 2);
        int[] none = { -1, -2, 10000000, 10000001, Integer.MIN_VALUE, Integer.MAX_VALUE };
        for (int amount : none) {
            refuses(x, 0, amount);
            refuses(x, 1, amount);
            Check.due("level by " + amount, x.level(amount, 0), -2);
            Check.due("level by " + amount, x.level(amount, 1), -2);
            Check.due("unpaid by " + amount, x.unpaid(amount), -2);
        }
        int[] holders = { -1, 2, 3, 12, 31, 32, 33, Integer.MIN_VALUE, Integer.MAX_VALUE };
        for (int h : holders) {
            refuses(x, h, 0);
            refuses(x, h, 9999999);
        }
        has(x, 0, 0, 0);
        has(x, 1, 50, 50);
        has(x, 9999998, 499999900, 499999900);
        has(x, 9999999, 499999950, 499999950);
        paid(x, 9999999, 5000000, 4999999);
        level(x, 0, 0, 1);
        level(x, 9999999, 499999950, 1);
        Check.due("unpaid", x.unpaid(0), -1);
        Check.due("unpaid", x.unpaid(9999999), -1);
        states(x, 0, 0, 0);
        states(x, 1, 4, 4);
    }

    private static void carve(int carve, int amount, int falls) {
        ExitFalls x = Check.firm("common f 1; carve " + carve + ";", 1);
        has(x, amount, falls * 100L);
        Check.due("paid of " + amount + " carve " + carve, x.paid(0, amount), falls);
    }

    private static void carveIsCutToWholeUnits() {
        int[][] half = { { 0, 0 }, { 1, 1 }, { 2, 1 }, { 3, 2 }, { 4, 2 }, { 9999998, 4999999 }, { 9999999, 5000000 } };
        for (int[] row : half) {
            carve(50, row[0], row[1]);
        }
        int[][] one = { { 1, 1 }, { 99, 99 }, { 100, 99 }, { 101, 100 }, { 199, 198 }, { 200, 198 }, { 201, 199 },
            { 9999999, 9900000 } };
        for (int[] row : one) {
            carve(1, row[0], row[1]);
        }
        int[][] third = { { 3, 3 }, { 4, 3 }, { 6, 5 }, { 7, 5 }, { 99, 67 }, { 100, 67 }, { 101, 68 } };
        for (int[] row : third) {
            carve(33, row[0], row[1]);
        }
        int[] all = { 0, 1, 2, 99, 100, 101, 9999999 };
        for (int amount : all) {
            carve(0, amount, amount);
        }
    }

    private static void ranksUntilTheyArePaid() {
        ExitFalls x = Check.firm("class a 10 at 10 rank 1; class b 10 at 10 rank 1 times 200; class c 5 at 10 rank 5;"
            + "common f 10;", 4);
        has(x, 0, 0, 0, 0, 0);
        Check.fraction("a third of one", x.has(0, 1, 0), x.has(0, 1, 1), 100, 3);
        Check.fraction("two thirds", x.has(1, 1, 0), x.has(1, 1, 1), 200, 3);
        Check.fraction("a third of 299", x.has(0, 299, 0), x.has(0, 299, 1), 29900, 3);
        Check.due("c has nothing yet", x.has(2, 299, 0), 0);
        has(x, 300, 10000, 20000, 0, 0);
        has(x, 301, 10000, 20000, 100, 0);
        has(x, 349, 10000, 20000, 4900, 0);
        has(x, 350, 10000, 20000, 5000, 0);
        has(x, 351, 10000, 20000, 5000, 100);
        states(x, 0, 0, 0, 0, 0);
        states(x, 1, 1, 1, 0, 0);
        states(x, 299, 1, 1, 0, 0);
        states(x, 300, 1, 1, 0, 0);
        states(x, 301, 1, 1, 1, 0);
        states(x, 350, 1, 1, 1, 0);
        states(x, 351, 1, 1, 1, 4);
        int[][] unpaid = { { 0, 1 }, { 1, 1 }, { 299, 1 }, { 300, 5 }, { 301, 5 }, { 349, 5 }, { 350, -1 }, { 351, -1 } };
        for (int[] row : unpaid) {
            Check.due("unpaid by " + row[0], x.unpaid(row[0]), row[1]);
        }
        ranksTheLeastFirst();
    }

    private static void ranksTheLeastFirst() {
        // told the other way round, each of 100 units
        ExitFalls x = Check.firm("class f" + " 10 at 10 rank 5;class e 10 at 10 rank 4;class d 10 at 10 rank 3;"
            + "class c 10 at 10 rank 2;class b 10 at 10 rank 1;class a 10 at 10 rank 0;", 6);
        for (int rank = 0; rank <= 5; rank++) {
            Check.due("unpaid", x.unpaid(100 * rank), rank);
            Check.due("unpaid", x.unpaid(100 * rank + 99), rank);
            Check.due("has", x.has(5 - rank, 100 * rank, 0), 0);
            Check.due("has", x.has(5 - rank, 100 * rank + 1, 0), 100);
            Check.due("has", x.has(5 - rank, 100 * rank + 100, 0), 10000);
        }
        Check.due("all paid", x.unpaid(600), -1);
        level(x, 600, 0, 1);
    }

    private static void rankWithoutPrefsIsPaid() {
        ExitFalls x = Check.firm("class a 10 at 10 rank 0 times 0; class b 10 at 10 rank 2; common f 1;", 3);
        Check.due("rank 0 has no prefs", x.unpaid(0), 2);
        Check.due("rank 2", x.unpaid(99), 2);
        Check.due("none", x.unpaid(100), -1);
        has(x, 50, 0, 5000, 0);
        states(x, 50, 0, 1, 0);
        Check.due("waive", x.waive(1, true), true);
        Check.due("waived prefs are none", x.unpaid(0), -1);
    }

    private static void prefsPaidJustSo() {
        ExitFalls x = Check.firm("class a" + HALVES + "; common f 10; carve 50;", 2);
        // of 199 and 200 units 100 fall
        level(x, 198, 0, 1);
        level(x, 199, 0, 1);
        level(x, 200, 0, 1);
        level(x, 201, 10, 1);
        Check.due("unpaid", x.unpaid(198), 0);
        Check.due("unpaid", x.unpaid(199), -1);
        has(x, 198, 9900, 0);
        has(x, 199, 10000, 0);
        has(x, 201, 10000, 100);
    }

    private static void optionAtItsStrike() {
        ExitFalls x = Check.firm("common f 10; option o 10 at 5;", 2);
        has(x, 49, 4900, 0);
        has(x, 50, 5000, 0);
        has(x, 51, 5050, 50);
        states(x, 0, 0, 0);
        states(x, 1, 4, 0);
        states(x, 49, 4, 0);
        states(x, 50, 4, 0);
        states(x, 51, 4, 4);
        level(x, 49, 490, 1);
        level(x, 50, 500, 1);
        level(x, 51, 505, 1);
    }

    private static void classAtItsPref() {
        ExitFalls x = Check.firm("class a" + HALVES + "; common f 10;", 2);
        has(x, 99, 9900, 0);
        has(x, 100, 10000, 0);
        has(x, 199, 10000, 9900);
        has(x, 200, 10000, 10000);
        has(x, 201, 10050, 10050);
        states(x, 0, 0, 0);
        states(x, 1, 1, 0);
        states(x, 100, 1, 0);
        states(x, 101, 1, 4);
        states(x, 199, 1, 4);
        states(x, 200, 1, 4);
        states(x, 201, 4, 4);
        // by a RATIO of 400 it turns at a quarter of v, by one of 1 at a hundred times
        ExitFalls fast = Check.firm("class a" + HALVES + " ratio 400; common f 40;", 2);
        has(fast, 199, 10000, 9900);
        has(fast, 200, 10000, 10000);
        has(fast, 201, 10050, 10050);
        states(fast, 200, 1, 4);
        states(fast, 201, 4, 4);
        ExitFalls slow = Check.firm("class a 10 at 1 rank 0 ratio 1; common f 9999;", 2);
        states(slow, 999909, 1, 4);
        states(slow, 999910, 1, 4);
        states(slow, 999911, 4, 4);
    }

    private static void sharingWithoutCap() {
        ExitFalls x = Check.firm("class a" + HALVES + " sharing; common f 10;", 2);
        has(x, 99, 9900, 0);
        has(x, 100, 10000, 0);
        has(x, 101, 10050, 50);
        has(x, 9999999, 500004950, 499994950);
        states(x, 0, 0, 0);
        states(x, 99, 1, 0);
        states(x, 100, 1, 0);
        states(x, 101, 2, 4);
        states(x, 9999999, 2, 4);
    }

    private static void classAtItsTop() {
        ExitFalls x = Check.firm("class a" + HALVES + " sharing cap 200; common f 10;", 2);
        has(x, 100, 10000, 0);
        has(x, 101, 10050, 50);
        has(x, 299, 19950, 9950);
        has(x, 300, 20000, 10000);
        has(x, 301, 20000, 10100);
        has(x, 399, 20000, 19900);
        has(x, 400, 20000, 20000);
        has(x, 401, 20050, 20050);
        states(x, 0, 0, 0);
        states(x, 100, 1, 0);
        states(x, 101, 2, 4);
        states(x, 299, 2, 4);
        states(x, 300, 3, 4);
        states(x, 301, 3, 4);
        states(x, 399, 3, 4);
        states(x, 400, 3, 4);
        states(x, 401, 4, 4);
        level(x, 299, 995, 1);
        level(x, 300, 1000, 1);
        level(x, 301, 1010, 1);
        level(x, 400, 2000, 1);
        level(x, 401, 2005, 1);
    }

    /** A CAP that is less than TIMES, as much, more. */
    private static void topAndPref() {
        int[] noMore = { 0, 1, 99, 100 };
        for (int cap : noMore) {
            ExitFalls x = Check.firm("class a" + HALVES + " sharing cap " + cap + "; common f 10;", 2);
            has(x, 101, 10000, 100);
            has(x, 200, 10000, 10000);
            has(x, 201, 10050, 10050);
            states(x, 100, 1, 0);
            states(x, 101, 1, 4);
            states(x, 200, 1, 4);
            states(x, 201, 4, 4);
        }
        ExitFalls more = Check.firm("class a" + HALVES + " sharing cap 101; common f 10;", 2);
        has(more, 101, 10050, 50);
        has(more, 102, 10100, 100);
        has(more, 202, 10100, 10100);
        has(more, 204, 10200, 10200);
        states(more, 101, 2, 4);
        states(more, 102, 3, 4);
        states(more, 103, 3, 4);
        states(more, 202, 3, 4);
        states(more, 203, 4, 4);
        // yearly more counts for PREF, so that it can be above the CAP
        ExitFalls yearly = Check.firm("class a" + HALVES + " sharing cap 150 yearly 5 10; common f 10;", 2);
        has(yearly, 151, 15000, 100);
        states(yearly, 151, 1, 4);
        ExitFalls lessYearly = Check.firm("class a" + HALVES + " sharing cap 150 yearly 7 7; common f 10;", 2);
        has(lessYearly, 150, 14950, 50);
        has(lessYearly, 151, 15000, 100);
        states(lessYearly, 150, 2, 4);
        states(lessYearly, 151, 3, 4);
    }

    private static void withoutPref() {
        String[] texts = { "class a 10 at 10 rank 0 times 0; common f 10;",
            "class a 10 at 10 rank 0 times 0 sharing; common f 10;",
            "class a 10 at 10 rank 0 times 0 sharing cap 200; common f 10;",
            "class a 10 at 10 rank 0 times 0 sharing cap 0; common f 10;" };
        int[] statesByOne = { 4, 2, 2, 4 };
        for (int i = 0; i < texts.length; i++) {
            ExitFalls told = Check.firm(texts[i], 2);
            ExitFalls waived = Check.firm(texts[i].replace(" times 0", ""), 2);
            Check.due("waive", waived.waive(0, true), true);
            ExitFalls[] both = { told, waived };
            for (ExitFalls x : both) {
                has(x, 0, 0, 0);
                has(x, 1, 50, 50);
                has(x, 401, 20050, 20050);
                states(x, 0, 0, 0);
                states(x, 1, statesByOne[i], 4);
                states(x, 399, statesByOne[i], 4);
                states(x, 400, i == 2 ? 3 : statesByOne[i], 4);
                states(x, 401, i == 1 ? 2 : 4, 4);
                Check.due("unpaid", x.unpaid(0), -1);
            }
        }
    }

    private static void theLeastLevel() {
        // alone, with CAP: from 200 units on no v up to 20 gives more
        ExitFalls x = Check.firm("class a" + HALVES + " sharing cap 200;", 1);
        level(x, 100, 0, 1);
        level(x, 101, 10, 1);
        level(x, 199, 990, 1);
        level(x, 200, 1000, 1);
        level(x, 201, 2010, 1);
        // alone, not SHARING: v is 0 up to PREF
        ExitFalls y = Check.firm("class a" + HALVES + ";", 1);
        level(y, 0, 0, 1);
        level(y, 99, 0, 1);
        level(y, 100, 0, 1);
        level(y, 101, 1010, 1);
        states(y, 100, 1);
        states(y, 101, 4);
        has(y, 101, 10100);
    }

    private static void levelOfOptionsAlone() {
        ExitFalls x = Check.firm("option o 10 at 5; option p 10 at 6;", 2);
        level(x, 0, 0, 1);
        level(x, 1, 510, 1);
        level(x, 9, 590, 1);
        level(x, 10, 600, 1);
        level(x, 11, 605, 1);
        has(x, 0, 0, 0);
        has(x, 1, 100, 0);
        has(x, 10, 1000, 0);
        has(x, 11, 1050, 50);
        states(x, 0, 0, 0);
        states(x, 10, 4, 0);
        states(x, 11, 4, 4);
    }

    private static void withoutHolders() {
        ExitFalls x = new ExitFalls();
        ExitFalls y = Check.firm("carve 10;", 0);
        int[] amounts = { -1, 0, 1, 9999999, 10000000 };
        for (int amount : amounts) {
            refuses(x, 0, amount);
            refuses(y, 0, amount);
            Check.due("level", x.level(amount, 0), -2);
            Check.due("level", y.level(amount, 1), -2);
            int unpaid = amount < 0 || amount > 9999999 ? -2 : -1;
            Check.due("unpaid", x.unpaid(amount), unpaid);
            Check.due("unpaid", y.unpaid(amount), unpaid);
        }
    }

    private static void otherWhats() {
        ExitFalls x = Check.firm("common f 3;", 1);
        int[] whats = { -2, -1, 2, 3, 10, Integer.MIN_VALUE, Integer.MAX_VALUE };
        for (int what : whats) {
            Check.due("has " + what, x.has(0, 1, what), -2);
            Check.due("level " + what, x.level(1, what), -2);
        }
        Check.due("above", x.has(0, 1, 0), 100);
        Check.due("below", x.has(0, 1, 1), 1);
        level(x, 1, 100, 3);
    }

    private static void lowestTerms() {
        ExitFalls x = Check.firm("common a 2; common b 4; common c 6;", 3);
        Check.fraction("a sixth of 1", x.has(0, 1, 0), x.has(0, 1, 1), 50, 3);
        Check.fraction("a third of 1", x.has(1, 1, 0), x.has(1, 1, 1), 100, 3);
        Check.fraction("half of 1", x.has(2, 1, 0), x.has(2, 1, 1), 50, 1);
        Check.fraction("nothing is 0 by 1", x.has(2, 0, 0), x.has(2, 0, 1), 0, 1);
        level(x, 1, 25, 3);
        level(x, 3, 25, 1);
    }

    private static void paidOfLikeParts() {
        ExitFalls x = Check.firm("common a 1; common b 1; common c 1; class d 1 at 1 rank 0 times 0;"
            + "class e 1 at 1 rank 0 times 0; class f 1 at 1 rank 0 times 0; class g 1 at 1 rank 0 times 0;"
            + "class h 1 at 1 rank 0 times 0; class i 1 at 1 rank 0 times 0;", 9);
        for (int amount = 0; amount <= 18; amount++) {
            for (int h = 0; h < 9; h++) {
                Check.due("paid " + h + " by " + amount, x.paid(h, amount), amount / 9 + (h < amount % 9 ? 1 : 0));
            }
        }
    }

    private static void paidOfUnlikeParts() {
        ExitFalls x = Check.firm("common a 1; common b 2; common c 1;", 3);
        paid(x, 0, 0, 0, 0);
        paid(x, 1, 0, 1, 0);
        paid(x, 2, 1, 1, 0);
        paid(x, 3, 1, 1, 1);
        paid(x, 4, 1, 2, 1);
        paid(x, 5, 1, 3, 1);
        // the greatest part comes last: 0.1, 0.3, 0.6
        ExitFalls y = Check.firm("common a 1; common b 3; common c 6;", 3);
        paid(y, 1, 0, 0, 1);
        paid(y, 2, 0, 1, 1);
        paid(y, 3, 0, 1, 2);
        paid(y, 4, 1, 1, 2);
        paid(y, 9, 1, 3, 5);
        paid(y, 10, 1, 3, 6);
    }

    private static void paidWithCarve() {
        ExitFalls x = Check.firm("common a 1; common b 1; carve 50;", 2);
        paid(x, 1, 1, 0);
        paid(x, 2, 1, 0);
        paid(x, 3, 1, 1);
        paid(x, 4, 1, 1);
        paid(x, 5, 2, 1);
    }

    /** Fractions whose divisor is as great as can be. */
    private static void theMostOfAll() {
        String most = " 9999 at 99 rank 3 times 400 ratio 400 yearly 30 20;";
        ExitFalls x = Check.firm("class a" + most + "class b" + most + "class c" + most + "class d" + most
            + "class e" + most + "class f 9998 at 97 rank 3 times 399 yearly 29 19;", 6);
        long one = 9999L * 99000;
        long last = 9998L * 97 * (399 + 29 * 19);
        Rat a = Rat.of(999999900L).times(Rat.of(one)).by(Rat.of(5 * one + last));
        Rat f = Rat.of(999999900L).times(Rat.of(last)).by(Rat.of(5 * one + last));
        Check.fraction("a", x.has(0, 9999999, 0), x.has(0, 9999999, 1), a.up.longValueExact(), a.down.longValueExact());
        Check.fraction("f", x.has(5, 9999999, 0), x.has(5, 9999999, 1), f.up.longValueExact(), f.down.longValueExact());
        long sum = 0;
        for (int h = 0; h < 6; h++) {
            sum += x.paid(h, 9999999);
        }
        Check.due("all is paid", sum, 9999999);
    }
}
