/** The edges of promises 12, 13 and 15 to 19: each with its neighbours. */
public final class SearchEdgesTest {
    private static final int NO = -1000000000;
    private static final int[] NO_AMOUNTS = { -1, -2, 10000000, 10000001, Integer.MIN_VALUE, Integer.MAX_VALUE };
    private static final int[] NO_HOLDERS = { -1, 3, 4, 12, 31, 32, 33, Integer.MIN_VALUE, Integer.MAX_VALUE };
    private static final int[] NO_UNITS = { 0, -1, 10000000, Integer.MIN_VALUE, Integer.MAX_VALUE };
    /** PREFS of 100 units; the class turns at 300, the option is worth something above 450. */
    private static final String THREE = "common f 100; class s 50 at 2 rank 0; option o 50 at 3;";

    public static void main(String[] args) {
        leastItsArguments();
        leastOfWholeUnits();
        leastUpToTheGreatestAmount();
        leastWithCarve();
        flatItsArguments();
        flatItsEnds();
        flatOverAllAmounts();
        flatWithCarve();
        wantsItsArguments();
        wantsUpToFourHundredTimes();
        wantsOfOneWaived();
        dilutesItsArguments();
        dilutesUpToTheMostShares();
        dilutesMoreOrLess();
        prefersItsArguments();
        prefersWhoHasMore();
        prefersByLessThanAHundredth();
        votesAreCut();
        votesOfOthersAreNoMatter();
        passesByMoreVotes();
        refusedCallsChangeNothing();
        Check.finish();
    }

    private static void leastItsArguments() {
        ExitFalls x = Check.firm(THREE, 3);
        for (int n : NO_UNITS) {
            Check.due("least " + n, x.least(0, n), -2);
            Check.due("least " + n, x.least(1, n), -2);
        }
        for (int h : NO_HOLDERS) {
            Check.due("least of " + h, x.least(h, 1), -2);
            Check.due("least of " + h, x.least(h, 0), -2);
        }
        Check.due("least 1", x.least(0, 1), 101);
        Check.due("least 9999999", x.least(0, 9999999), -1);
        Check.due("least without holders", new ExitFalls().least(0, 1), -2);
    }

    private static void leastOfWholeUnits() {
        ExitFalls x = Check.firm(THREE, 3);
        int[][] want = { { 0, 1, 101 }, { 0, 2, 102 }, { 0, 200, 300 }, { 0, 201, 302 }, { 1, 1, 1 }, { 1, 99, 99 },
            { 1, 100, 100 }, { 1, 101, 303 }, { 2, 1, 454 }, { 2, 2, 458 } };
        for (int[] row : want) {
            Check.due("least " + row[0] + " " + row[1], x.least(row[0], row[1]), row[2]);
        }
        // two thirds of 1 are less than one unit, of 2 more
        ExitFalls y = Check.firm("common a 1; common b 2;", 2);
        Check.due("least of a third", y.least(0, 1), 3);
        Check.due("least of a third", y.least(0, 2), 6);
        Check.due("least of two thirds", y.least(1, 1), 2);
        Check.due("least of two thirds", y.least(1, 2), 3);
    }

    private static void leastUpToTheGreatestAmount() {
        ExitFalls one = Check.firm("common a 1;", 1);
        Check.due("least", one.least(0, 1), 1);
        Check.due("least", one.least(0, 9999998), 9999998);
        Check.due("least", one.least(0, 9999999), 9999999);
        ExitFalls half = Check.firm("common a 1; common b 1;", 2);
        Check.due("least", half.least(0, 4999999), 9999998);
        Check.due("least by none", half.least(0, 5000000), -1);
        ExitFalls third = Check.firm("common a 1; common b 2;", 2);
        Check.due("least", third.least(0, 3333332), 9999996);
        Check.due("least", third.least(0, 3333333), 9999999);
        Check.due("least by none", third.least(0, 3333334), -1);
    }

    private static void leastWithCarve() {
        ExitFalls x = Check.firm("common a 1; carve 50;", 1);
        Check.due("least", x.least(0, 1), 1);
        Check.due("least", x.least(0, 2), 3);
        Check.due("least", x.least(0, 3), 5);
        Check.due("least", x.least(0, 4999999), 9999997);
        Check.due("least", x.least(0, 5000000), 9999999);
        Check.due("least by none", x.least(0, 5000001), -1);
    }

    private static void flatItsArguments() {
        ExitFalls x = Check.firm(THREE, 3);
        for (int amount : NO_AMOUNTS) {
            Check.due("flat by " + amount, x.flat(0, amount, 0), -2);
            Check.due("flat by " + amount, x.flat(0, amount, 1), -2);
        }
        for (int h : NO_HOLDERS) {
            Check.due("flat of " + h, x.flat(h, 0, 0), -2);
            Check.due("flat of " + h, x.flat(h, 0, 1), -2);
        }
        int[] whats = { -1, 2, 3, Integer.MIN_VALUE, Integer.MAX_VALUE };
        for (int what : whats) {
            Check.due("flat " + what, x.flat(0, 200, what), -2);
        }
        Check.due("flat without holders", new ExitFalls().flat(0, 0, 0), -2);
    }

    private static void flat(ExitFalls x, int h, int amount, int from, int to) {
        Check.due("flat " + h + " by " + amount + " from", x.flat(h, amount, 0), from);
        Check.due("flat " + h + " by " + amount + " to", x.flat(h, amount, 1), to);
    }

    private static void flatItsEnds() {
        ExitFalls x = Check.firm(THREE, 3);
        flat(x, 0, 0, 0, 100);
        flat(x, 0, 100, 0, 100);
        flat(x, 0, 101, 101, 101);
        flat(x, 1, 0, 0, 0);
        flat(x, 1, 1, 1, 1);
        flat(x, 1, 99, 99, 99);
        flat(x, 1, 100, 100, 300);
        flat(x, 1, 101, 100, 300);
        flat(x, 1, 299, 100, 300);
        flat(x, 1, 300, 100, 300);
        flat(x, 1, 301, 301, 301);
        flat(x, 2, 0, 0, 450);
        flat(x, 2, 450, 0, 450);
        flat(x, 2, 451, 451, 451);
        flat(x, 0, 9999998, 9999998, 9999998);
        flat(x, 0, 9999999, 9999999, 9999999);
    }

    private static void flatOverAllAmounts() {
        String most = " 9999 at 99 rank 0 times 400 yearly 30 20;";
        ExitFalls x = Check.firm("class a" + most + "class b" + most + "common f 1;", 3);
        flat(x, 2, 0, 0, 9999999);
        flat(x, 2, 5000000, 0, 9999999);
        flat(x, 2, 9999999, 0, 9999999);
        Check.due("least by none", x.least(2, 1), -1);
        // 9,899,010 units of PREFS: a is paid, f has all the rest
        ExitFalls y = Check.firm("class a" + most + "common f 1;", 2);
        flat(y, 0, 9899009, 9899009, 9899009);
        flat(y, 0, 9899010, 9899010, 9900000);
        flat(y, 1, 9899010, 0, 9899010);
        flat(y, 1, 9899011, 9899011, 9899011);
    }

    private static void flatWithCarve() {
        ExitFalls x = Check.firm("common a 1; carve 50;", 1);
        flat(x, 0, 0, 0, 0);
        flat(x, 0, 1, 1, 2);
        flat(x, 0, 2, 1, 2);
        flat(x, 0, 3, 3, 4);
        flat(x, 0, 9999998, 9999997, 9999998);
        flat(x, 0, 9999999, 9999999, 9999999);
        ExitFalls y = Check.firm("common a 1; carve 1;", 1);
        flat(y, 0, 98, 98, 98);
        flat(y, 0, 99, 99, 100);
        flat(y, 0, 100, 99, 100);
        flat(y, 0, 101, 101, 101);
    }

    private static void wantsItsArguments() {
        ExitFalls x = Check.firm(THREE, 3);
        for (int amount : NO_AMOUNTS) {
            Check.due("wants by " + amount, x.wants(1, amount, 1), -2);
        }
        for (int h : NO_HOLDERS) {
            Check.due("wants of " + h, x.wants(h, 400, 1), -2);
        }
        for (int n : NO_UNITS) {
            Check.due("wants " + n, x.wants(1, 400, n), -2);
        }
        Check.due("wants of common", x.wants(0, 400, 1), -2);
        Check.due("wants of option", x.wants(2, 400, 1), -2);
        Check.due("wants 1", x.wants(1, 400, 1), 0);
        Check.due("wants 9999999", x.wants(1, 9999999, 9999999), -1);
        Check.due("wants by 0", x.wants(1, 0, 1), -1);
        Check.due("wants by 1", x.wants(1, 1, 1), 1);
        ExitFalls alone = Check.firm("class a 1 at 1 rank 0;", 1);
        Check.due("wants all", alone.wants(0, 9999999, 9999999), 0);
        Check.due("wants more than all", alone.wants(0, 9999998, 9999999), -1);
    }

    private static void wantsUpToFourHundredTimes() {
        // by TIMES t the PREFS are t units
        ExitFalls x = Check.firm("class a 10 at 10 rank 0; common f 10;", 2);
        int[][] want = { { 299, 0 }, { 300, 0 }, { 301, 301 }, { 399, 399 }, { 400, 400 }, { 401, -1 }, { 600, -1 } };
        for (int[] row : want) {
            Check.due("wants " + row[0], x.wants(0, 600, row[0]), row[1]);
        }
        Check.due("wants all there is", x.wants(0, 300, 300), 300);
        Check.due("wants more than there is", x.wants(0, 300, 301), -1);
        Check.due("times stay", x.holder(0, 4), 100);
        Check.due("has as before", x.has(0, 150, 0), 10000);
        ExitFalls yearly = Check.firm("class a 10 at 10 rank 0 times 400 yearly 10 10; common f 10;", 2);
        Check.due("wants with yearly", yearly.wants(0, 600, 300), 0);
        Check.due("wants with yearly", yearly.wants(0, 600, 301), 201);
        Check.due("wants with yearly", yearly.wants(0, 600, 500), 400);
        Check.due("wants with yearly", yearly.wants(0, 600, 501), -1);
        Check.due("times stay", yearly.holder(0, 4), 400);
        // behind another RANK there is only what is left
        ExitFalls behind = Check.firm("class a 10 at 10 rank 1; class b 10 at 10 rank 0 times 300; common f 10;", 3);
        Check.due("wants behind", behind.wants(0, 500, 100), 0);
        Check.due("wants behind", behind.wants(0, 500, 101), 101);
        Check.due("wants behind", behind.wants(0, 500, 200), 200);
        Check.due("wants behind", behind.wants(0, 500, 201), -1);
    }

    private static void wantsOfOneWaived() {
        ExitFalls x = Check.firm("class a 10 at 10 rank 0; common f 10;", 2);
        x.waive(0, true);
        Check.due("what it has by level", x.wants(0, 600, 300), 0);
        Check.due("more by no times", x.wants(0, 600, 301), -1);
    }

    private static void dilutesItsArguments() {
        ExitFalls x = Check.firm(THREE, 3);
        for (int amount : NO_AMOUNTS) {
            Check.due("dilutes by " + amount, x.dilutes(0, amount, 1, 1), NO);
        }
        for (int h : NO_HOLDERS) {
            Check.due("dilutes " + h, x.dilutes(h, 400, 1, 1), NO);
            Check.due("dilutes with " + h, x.dilutes(0, 400, h, 1), NO);
        }
        int[] shares = { 0, -1, -50, Integer.MIN_VALUE, 9999, 10000, Integer.MAX_VALUE, Integer.MAX_VALUE - 49 };
        for (int n : shares) {
            Check.due("dilutes by shares " + n, x.dilutes(0, 400, 1, n), NO);
        }
        Check.due("dilutes without holders", new ExitFalls().dilutes(0, 0, 0, 1), NO);
        Check.due("dilutes by nothing", x.dilutes(0, 0, 0, 1), 0);
    }

    private static void dilutesUpToTheMostShares() {
        ExitFalls x = Check.firm("common a 1; common b 9998; common c 9999;", 3);
        Check.due("9998 more", x.dilutes(0, 0, 0, 9998), 0);
        Check.due("9999 more", x.dilutes(0, 0, 0, 9999), NO);
        Check.due("1 more", x.dilutes(0, 0, 1, 1), 0);
        Check.due("2 more", x.dilutes(0, 0, 1, 2), NO);
        Check.due("no more", x.dilutes(0, 0, 2, 1), NO);
        Check.due("shares stay", x.holder(0, 1), 1);
        Check.due("shares stay", x.holder(1, 1), 9998);
    }

    private static void dilutesMoreOrLess() {
        ExitFalls x = Check.firm("common a 1; common b 1;", 2);
        Check.due("another one has more", x.dilutes(0, 60, 1, 1), 10);
        Check.due("itself", x.dilutes(0, 60, 0, 1), -10);
        // 30 of 60 by halves; of 61 by halves the first has one more
        Check.due("of 61 it had 31", x.dilutes(0, 61, 1, 1), 11);
        Check.due("of 61 it had 30", x.dilutes(1, 61, 0, 1), 10);
        ExitFalls y = Check.firm(THREE, 3);
        Check.due("an option without worth", y.dilutes(0, 450, 2, 9949), 0);
        Check.due("one more unit, its worth counts", y.dilutes(0, 460, 2, 9949), 5);
        Check.due("more shares of a class have more prefs", y.dilutes(0, 150, 1, 10), 20);
    }

    private static void prefersItsArguments() {
        ExitFalls x = Check.firm(THREE, 3);
        for (int amount : NO_AMOUNTS) {
            Check.due("prefers " + amount, x.prefers(amount, 0), -2);
            Check.due("prefers to " + amount, x.prefers(0, amount), -2);
            Check.due("passes " + amount, x.passes(amount, 0), -2);
            Check.due("passes for " + amount, x.passes(0, amount), -2);
            Check.due("passes both " + amount, x.passes(amount, amount), -2);
        }
        Check.due("prefers all to nothing", x.prefers(9999999, 0), 7);
        Check.due("prefers nothing to all", x.prefers(0, 9999999), 0);
        Check.due("passes", x.passes(9999999, 0), 1);
        Check.due("passes not", x.passes(0, 9999999), 0);
        ExitFalls none = new ExitFalls();
        Check.due("without holders", none.prefers(9999999, 0), 0);
        Check.due("without holders", none.passes(9999999, 0), 0);
    }

    private static void prefersWhoHasMore() {
        ExitFalls x = Check.firm(THREE, 3);
        int[][] want = { { 100, 100, 0 }, { 101, 100, 1 }, { 100, 99, 2 }, { 300, 100, 1 }, { 300, 99, 3 },
            { 301, 300, 3 }, { 450, 300, 3 }, { 451, 450, 7 }, { 450, 451, 0 }, { 9999999, 9999998, 7 },
            { 9999999, 9999999, 0 } };
        for (int[] row : want) {
            Check.due("prefers " + row[0] + " to " + row[1], x.prefers(row[0], row[1]), row[2]);
        }
        // of 1 and 2 units the same falls
        ExitFalls y = Check.firm("common a 1; carve 50;", 1);
        Check.due("prefers of the same", y.prefers(2, 1), 0);
        Check.due("prefers more", y.prefers(3, 2), 1);
    }

    private static void prefersByLessThanAHundredth() {
        ExitFalls x = Check.firm("common a 1; common b 9999; common c 9999;", 3);
        for (int amount = 0; amount < 100; amount++) {
            Check.due("prefers more", x.prefers(amount + 1, amount), 7);
            Check.due("prefers less", x.prefers(amount, amount + 1), 0);
            flat(x, 0, amount, amount, amount);
        }
        // a comes to TOP between the two AMOUNTS: fractions of unlike divisors, whole parts alike
        ExitFalls y = Check.firm("common f 1; class s 9999 at 1 rank 0 times 0;"
            + "class a 9999 at 1 rank 0 times 1 ratio 30 sharing cap 2;", 3);
        Check.fraction("below TOP", y.has(0, 533, 0), y.has(0, 533, 1), 433010, 129997);
        Check.fraction("at TOP", y.has(0, 534, 0), y.has(0, 534, 1), 16701, 5000);
        Check.due("prefers more", y.prefers(534, 533), 7);
        Check.due("prefers less", y.prefers(533, 534), 0);
        flat(y, 0, 533, 533, 533);
        flat(y, 0, 534, 534, 534);
        flat(y, 2, 533, 533, 533);
        Check.due("a has TOP from here", y.flat(2, 600, 0), 534);
    }

    private static void votesAreCut() {
        int[][] want = { { 1, 1, 0 }, { 99, 1, 0 }, { 100, 1, 1 }, { 199, 1, 1 }, { 200, 1, 2 }, { 1, 99, 0 },
            { 1, 100, 1 }, { 1, 101, 1 }, { 1, 199, 1 }, { 1, 200, 2 }, { 9999, 1, 99 }, { 9999, 400, 39996 } };
        for (int[] row : want) {
            ExitFalls x = Check.firm("class a " + row[0] + " at 1 rank 0 ratio " + row[1] + ";", 1);
            Check.due("votes of " + row[0] + " ratio " + row[1], x.votes(1), row[2]);
        }
        // each is cut by itself
        ExitFalls two = Check.firm("class a 1 at 1 rank 0 ratio 50; class b 1 at 1 rank 0 ratio 50;", 2);
        Check.due("votes together", two.votes(3), 0);
        two.waive(0, true);
        two.grant(0, 1);
        Check.due("votes of a waived one that got shares", two.votes(3), 1);
    }

    private static void votesOfOthersAreNoMatter() {
        ExitFalls x = Check.firm("common a 5; option o 7 at 1; class c 11 at 1 rank 0;", 3);
        int[] want = { 0, 5, 0, 5, 11, 16, 11, 16 };
        for (int set = 0; set < 8; set++) {
            Check.due("votes " + set, x.votes(set), want[set]);
            Check.due("votes and others", x.votes(set | 0xfffffff8), want[set]);
            Check.due("votes and others", x.votes(set | 8), want[set]);
        }
        Check.due("votes of no holders", new ExitFalls().votes(-1), 0);
        Check.due("votes of others", x.votes(Integer.MIN_VALUE), 0);
    }

    private static void passesByMoreVotes() {
        // up to 100 units c alone has more by more
        int[][] want = { { 9, 10, 1 }, { 10, 10, 0 }, { 11, 10, 0 }, { 1, 10, 1 } };
        for (int[] row : want) {
            ExitFalls x = Check.firm("common a " + row[0] + "; class c " + row[1] + " at 10 rank 0; option o 99 at 1;", 3);
            Check.due("prefers", x.prefers(10, 9), 2);
            Check.due("passes, " + row[0] + " votes against", x.passes(10, 9), row[2]);
            Check.due("passes for less", x.passes(9, 10), 0);
            Check.due("passes for the same", x.passes(10, 10), 0);
        }
        ExitFalls options = Check.firm("option o 99 at 1;", 1);
        Check.due("no votes are not more than none", options.passes(10, 9), 0);
        Check.due("though it has more", options.prefers(10, 9), 1);
    }

    private static Made rich() {
        return Made.of(THREE).then(x -> x.close(1000, 30)).then(x -> x.guess(500, 3))
            .then(x -> x.waive(1, true) ? 1 : 0).then(x -> x.grant(2, 4)).fed("common left 17; carve 3;");
    }

    private static void refusedCallsChangeNothing() {
        Later.refused("least", rich(), x -> x.least(0, 0), -2);
        Later.refused("flat", rich(), x -> x.flat(0, 10000000, 1), -2);
        Later.refused("wants of common", rich(), x -> x.wants(0, 400, 1), -2);
        Later.refused("wants no units", rich(), x -> x.wants(1, 400, 0), -2);
        Later.refused("wants what no times give", rich(), x -> x.wants(1, 400, 9999999), -1);
        Later.refused("dilutes too much", rich(), x -> x.dilutes(0, 400, 2, 9946), NO);
        Later.refused("dilutes itself too much", rich(), x -> x.dilutes(0, 400, 0, 9900), NO);
        Later.refused("dilutes by no amount", rich(), x -> x.dilutes(0, -1, 2, 1), NO);
        Later.refused("prefers", rich(), x -> x.prefers(-1, 5), -2);
        Later.refused("passes", rich(), x -> x.passes(5, -1), -2);
        // those that are not refused change nothing either
        Later.refused("wants", rich(), x -> x.wants(1, 1000, 1), 0);
        Later.refused("dilutes", rich(), x -> x.dilutes(0, 100, 2, 9945), 0);
    }
}
