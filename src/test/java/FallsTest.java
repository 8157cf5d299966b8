/** Promises 8 to 21, by firms that are reckoned by hand. */
public final class FallsTest {
    private static final String SIX = "class a 10 at 10 rank 0 times 150; class b 10 at 10 rank 1 ratio 200;"
        + "class c 10 at 10 rank 1 sharing; class d 10 at 10 rank 2 sharing cap 250;"
        + "common f 60; option o 20 at 4; carve 20;";

    public static void main(String[] args) {
        has();
        states();
        paid();
        searches();
        wants();
        dilutes();
        votes();
        breaks();
        emptyPrefs();
        flatLevels();
        oneHundredth();
        greatest();
        wrong();
        Check.finish();
    }

    private static void has(ExitFalls x, int amount, long... want) {
        for (int h = 0; h < want.length; h++) {
            Check.fraction("has " + h + " by " + amount, x.has(h, amount, 0), x.has(h, amount, 1), want[h], 1);
        }
    }

    private static void states(ExitFalls x, int amount, int... want) {
        for (int h = 0; h < want.length; h++) {
            Check.due("state " + h + " by " + amount, x.state(h, amount), want[h]);
        }
    }

    private static void has() {
        ExitFalls x = Check.firm(SIX, 6);
        has(x, 0, 0, 0, 0, 0, 0, 0);
        has(x, 250, 15000, 2500, 2500, 0, 0, 0);
        has(x, 500, 15000, 10000, 10000, 5000, 0, 0);
        has(x, 1000, 15000, 10000, 14300, 14300, 25800, 600);
        Check.fraction("level", x.level(1000, 0), x.level(1000, 1), 430, 1);
        Check.fraction("level before prefs", x.level(562, 0), x.level(562, 1), 0, 1);
        Check.fraction("level behind prefs", x.level(563, 0), x.level(563, 1), 5, 4);
        Check.fraction("level behind prefs", x.level(564, 0), x.level(564, 1), 5, 2);
        Check.due("unpaid", x.unpaid(0), 0);
        Check.due("unpaid", x.unpaid(250), 1);
        Check.due("unpaid", x.unpaid(500), 2);
        Check.due("unpaid", x.unpaid(561), 2);
        Check.due("unpaid", x.unpaid(562), -1);
    }

    private static void states() {
        ExitFalls x = Check.firm(SIX, 6);
        states(x, 0, 0, 0, 0, 0, 0, 0);
        states(x, 250, 1, 1, 1, 0, 0, 0);
        states(x, 562, 1, 1, 1, 1, 0, 0);
        states(x, 1000, 1, 1, 2, 2, 4, 4);
        states(x, 2587, 1, 4, 2, 3, 4, 4);
        states(x, 2589, 4, 4, 2, 3, 4, 4);
        states(x, 4087, 4, 4, 2, 3, 4, 4);
        states(x, 4088, 4, 4, 2, 4, 4, 4);
        // a CAP below PREF makes TOP PREF, which is PREF alone
        ExitFalls y = Check.firm("class a 10 at 10 rank 0 sharing cap 50; common b 10;", 2);
        states(y, 50, 1, 0);
        states(y, 150, 1, 4);
        states(y, 200, 1, 4);
        states(y, 201, 4, 4);
        has(y, 200, 10000, 10000);
        has(y, 300, 15000, 15000);
    }

    private static void paid(ExitFalls x, int amount, int... want) {
        for (int h = 0; h < want.length; h++) {
            Check.due("paid " + h + " by " + amount, x.paid(h, amount), want[h]);
        }
    }

    private static void paid() {
        ExitFalls x = Check.firm("common a 1; common b 1; common c 1;", 3);
        paid(x, 0, 0, 0, 0);
        paid(x, 1, 1, 0, 0);
        paid(x, 2, 1, 1, 0);
        paid(x, 3, 1, 1, 1);
        paid(x, 100, 34, 33, 33);
        paid(x, 101, 34, 34, 33);
        paid(x, 9999999, 3333333, 3333333, 3333333);
        Check.fraction("has a third", x.has(2, 100, 0), x.has(2, 100, 1), 10000, 3);
        ExitFalls y = Check.firm("common a 1; common b 4; common c 2;", 3);
        paid(y, 10, 1, 6, 3);
        // 1.43, 5.71, 2.86: the greatest parts that were cut
        Check.fraction("has", y.has(0, 10, 0), y.has(0, 10, 1), 1000, 7);
        ExitFalls z = Check.firm(SIX, 6);
        paid(z, 1000, 150, 100, 143, 143, 258, 6);
    }

    private static void searches() {
        ExitFalls x = Check.firm(SIX, 6);
        Check.due("least", x.least(3, 100), 562);
        Check.due("least", x.least(0, 150), 187);
        Check.due("least of the most", x.least(0, 9999999), -1);
        Check.due("flat from", x.flat(0, 1000, 0), 187);
        Check.due("flat to", x.flat(0, 1000, 1), 2587);
        Check.due("flat of nothing", x.flat(5, 3, 0), 0);
        Check.due("flat of nothing", x.flat(5, 3, 1), 962);
        ExitFalls y = Check.firm("common a 1; option o 1 at 999;", 2);
        Check.due("least of all", y.least(0, 9999999), -1);
        Check.due("least half", y.least(1, 4999500), 9999999);
        Check.due("least more than half", y.least(1, 4999501), -1);
        ExitFalls z = Check.firm("common a 9999;", 1);
        Check.due("least of one alone", z.least(0, 9999999), 9999999);
        Check.due("flat of one alone", z.flat(0, 9999999, 0), 9999999);
        Check.due("flat of one alone", z.flat(0, 9999999, 1), 9999999);
        ExitFalls v = Check.firm("common a 1; carve 50;", 1);
        // of 1 nothing is carved, of 2 one unit is
        Check.due("flat by carve", v.flat(0, 2, 0), 1);
        Check.due("flat by carve", v.flat(0, 1, 1), 2);
    }

    private static void wants() {
        ExitFalls x = Check.firm(SIX, 6);
        Check.due("wants", x.wants(0, 500, 200), 200);
        Check.due("wants", x.wants(0, 500, 400), 400);
        Check.due("wants too much", x.wants(0, 500, 401), -1);
        Check.due("wants of common", x.wants(4, 500, 1), -2);
        Check.due("wants of option", x.wants(5, 500, 1), -2);
        Check.due("wants 0", x.wants(0, 500, 0), -2);
        Check.due("wants beyond", x.wants(0, 500, 10000000), -2);
        Check.due("wants the most", x.wants(0, 500, 9999999), -1);
        Check.due("wants what it has", x.wants(2, 1000, 1), 0);
        Check.due("times stay", x.holder(0, 4), 150);
        x.waive(0, true);
        Check.due("wants waived", x.wants(0, 500, 200), -1);
    }

    private static void dilutes() {
        ExitFalls x = Check.firm("common a 1; common b 1; common c 1;", 3);
        Check.due("dilutes", x.dilutes(0, 100, 1, 1), 9);
        Check.due("dilutes itself", x.dilutes(1, 100, 1, 1), -17);
        Check.due("shares stay", x.holder(1, 1), 1);
        int none = -1000000000;
        Check.due("dilutes 0", x.dilutes(0, 100, 1, 0), none);
        Check.due("dilutes most", x.dilutes(0, 9999, 1, 9998), 3333 - 1);
        Check.due("dilutes too many", x.dilutes(0, 100, 1, 9999), none);
        Check.due("dilutes many more", x.dilutes(0, 100, 1, Integer.MAX_VALUE), none);
        Check.due("dilutes less", x.dilutes(0, 100, 1, Integer.MIN_VALUE), none);
        Check.due("dilutes no holder", x.dilutes(3, 100, 1, 1), none);
        Check.due("dilutes by no holder", x.dilutes(0, 100, 3, 1), none);
        Check.due("dilutes by no holder", x.dilutes(0, 100, -1, 1), none);
        Check.due("dilutes no amount", x.dilutes(0, 10000000, 1, 1), none);
    }

    private static void votes() {
        ExitFalls x = Check.firm("common a 10; option o 90 at 1; class c 33 at 10 rank 0 ratio 50;"
            + "class d 5 at 10 rank 1 times 300;", 4);
        Check.due("votes", x.votes(1), 10);
        Check.due("votes of option", x.votes(2), 0);
        Check.due("votes cut", x.votes(4), 16);
        Check.due("votes together", x.votes(-1), 31);
        Check.due("votes of none", x.votes(16), 0);
        // up to 330 c alone has more, then d up to 480
        Check.due("prefers", x.prefers(330, 100), 4);
        Check.due("passes", x.passes(330, 100), 1);
        Check.due("prefers", x.prefers(480, 330), 8);
        Check.due("passes", x.passes(480, 330), 0);
        Check.due("prefers the same", x.prefers(480, 480), 0);
        Check.due("passes the same", x.passes(480, 480), 0);
        Check.due("prefers less", x.prefers(330, 480), 0);
        ExitFalls even = Check.firm("common a 16; class c 16 at 10 rank 0;", 2);
        Check.due("prefers one of two", even.prefers(160, 0), 2);
        Check.due("as many votes as others", even.passes(160, 0), 0);
        ExitFalls none = Check.firm("option o 1 at 1;", 1);
        Check.due("prefers without votes", none.prefers(100, 50), 1);
        Check.due("passes without votes", none.passes(100, 50), 0);
    }

    private static void breaks() {
        ExitFalls x = Check.firm(SIX, 6);
        long[] want = { 15000, 35000, 45000, 77000, 87000, 207000, 327000 };
        Check.due("breaks", x.breaks(-1, 99), want.length);
        for (int k = 0; k < want.length; k++) {
            Check.fraction("break " + k, x.breaks(k, 0), x.breaks(k, 1), want[k], 1);
        }
        Check.due("break too far", x.breaks(7, 0), -2);
        Check.due("break before", x.breaks(-2, 0), -2);
        Check.due("break of another what", x.breaks(0, 2), -2);
        Check.fraction("rank 0", x.part(0, 0, 0), x.part(0, 0, 1), 1, 1);
        Check.fraction("rank 1", x.part(1, 1, 0), x.part(1, 1, 1), 1, 2);
        Check.fraction("rank 1, a", x.part(0, 1, 0), x.part(0, 1, 1), 0, 1);
        Check.fraction("behind prefs", x.part(2, 3, 0), x.part(2, 3, 1), 1, 8);
        Check.fraction("behind prefs, f", x.part(4, 3, 0), x.part(4, 3, 1), 3, 4);
        Check.fraction("behind strike", x.part(5, 4, 0), x.part(5, 4, 1), 1, 5);
        Check.fraction("b turned", x.part(1, 5, 0), x.part(1, 5, 1), 1, 6);
        Check.fraction("d at top", x.part(3, 6, 0), x.part(3, 6, 1), 0, 1);
        Check.fraction("last", x.part(3, 7, 0), x.part(3, 7, 1), 1, 13);
        Check.due("part too far", x.part(0, 8, 0), -2);
        Check.due("part before", x.part(0, -1, 0), -2);
        Check.due("part of no holder", x.part(6, 0, 0), -2);
        Check.due("part of another what", x.part(0, 0, 2), -2);
    }

    private static void emptyPrefs() {
        ExitFalls x = Check.firm("option o 3 at 2; option p 1 at 5;", 2);
        Check.due("a strike at nothing is no break", x.breaks(-1, 0), 1);
        Check.due("break", x.breaks(0, 0), 900);
        Check.fraction("part", x.part(0, 0, 0), x.part(0, 0, 1), 1, 1);
        Check.fraction("part", x.part(0, 1, 0), x.part(0, 1, 1), 3, 4);
        Check.fraction("level", x.level(9, 0), x.level(9, 1), 500, 1);
        Check.fraction("level of nothing", x.level(0, 0), x.level(0, 1), 0, 1);
        states(x, 9, 4, 0);
        ExitFalls y = Check.firm("common a 7;", 1);
        Check.due("no breaks", y.breaks(-1, 0), 0);
        Check.fraction("part of all", y.part(0, 0, 0), y.part(0, 0, 1), 1, 1);
        ExitFalls z = Check.firm("class a 10 at 1 rank 5 times 0 sharing cap 0; class b 10 at 1 rank 2 times 0 sharing;", 2);
        Check.due("no breaks without prefs", z.breaks(-1, 0), 0);
        states(z, 10, 4, 2);
        has(z, 10, 500, 500);
        ExitFalls w = Check.firm("class a 10 at 1 rank 5; class b 10 at 1 rank 2 ratio 50;", 2);
        // 20 units are the PREFS, at 30 b turns as well
        Check.due("breaks of classes alone", w.breaks(-1, 0), 3);
        Check.due("break", w.breaks(0, 0), 1000);
        Check.due("break", w.breaks(1, 0), 2000);
        Check.due("break", w.breaks(2, 0), 3000);
        Check.fraction("level is the least", w.level(20, 0), w.level(20, 1), 0, 1);
        Check.fraction("level jumps", w.level(21, 0), w.level(21, 1), 110, 1);
    }

    private static void flatLevels() {
        ExitFalls x = Check.firm("class a 10 at 10 rank 0 sharing cap 200;", 1);
        Check.fraction("the least level", x.level(200, 0), x.level(200, 1), 1000, 1);
        Check.fraction("behind it", x.level(201, 0), x.level(201, 1), 2010, 1);
        states(x, 200, 3);
        states(x, 201, 4);
        Check.due("breaks", x.breaks(-1, 0), 2);
        Check.fraction("part", x.part(0, 2, 0), x.part(0, 2, 1), 1, 1);
    }

    private static void oneHundredth() {
        ExitFalls x = Check.firm("class a 1 at 1 rank 0 times 199; common b 1;", 2);
        has(x, 1, 100, 0);
        has(x, 2, 199, 1);
        Check.fraction("level", x.level(2, 0), x.level(2, 1), 1, 1);
        ExitFalls y = Check.firm("class a 1 at 1 rank 2 times 1; class b 1 at 1 rank 4 times 1; common c 1;", 3);
        Check.due("breaks", y.breaks(-1, 0), 3);
        Check.due("break", y.breaks(0, 0), 1);
        Check.due("break", y.breaks(1, 0), 2);
        Check.fraction("part", y.part(0, 0, 0), y.part(0, 0, 1), 1, 1);
        Check.fraction("part", y.part(0, 1, 0), y.part(0, 1, 1), 0, 1);
        Check.fraction("part", y.part(1, 1, 0), y.part(1, 1, 1), 1, 1);
        Check.fraction("part", y.part(2, 2, 0), y.part(2, 2, 1), 1, 1);
    }

    private static void greatest() {
        String most = " 9999 at 99 rank 0 times 400 ratio 400 sharing cap 2000 yearly 30 20;";
        ExitFalls x = Check.firm("class a" + most + "class b" + most + "class c" + most + "class d" + most
            + "class e" + most + "class f" + most, 6);
        Check.due("pref", x.holder(0, 10), 99000);
        for (int h = 0; h < 6; h++) {
            Check.fraction("a sixth", x.has(h, 9999999, 0), x.has(h, 9999999, 1), 333333300 / 2, 1);
            Check.due("paid", x.paid(h, 9999999), h < 3 ? 1666667 : 1666666);
        }
        Check.due("all prefs", x.breaks(0, 0), 6L * 9999 * 99000);
        Check.due("all tops", x.breaks(1, 0), 6L * 9999 * 198000);
        Check.due("no more: turned at once with it", x.breaks(-1, 0), 2);
        Check.due("rank", x.rank(0, 1), 0);
        Check.due("a is last and has nothing", x.has(0, 9999999, 0), 0);
        for (int h = 1; h < 6; h++) {
            x.rank(h, 5);
        }
        has(x, 9999999, 989901000, 2019780, 2019780, 2019780, 2019780, 2019780);
        paid(x, 9999999, 9899010, 20198, 20198, 20198, 20198, 20197);
    }

    private static void wrong() {
        ExitFalls x = Check.firm(SIX, 6);
        int[] holders = { -1, 6, 12, Integer.MIN_VALUE, Integer.MAX_VALUE };
        for (int h : holders) {
            Check.due("has", x.has(h, 1, 0), -2);
            Check.due("state", x.state(h, 1), -2);
            Check.due("paid", x.paid(h, 1), -2);
            Check.due("least", x.least(h, 1), -2);
            Check.due("flat", x.flat(h, 1, 0), -2);
            Check.due("wants", x.wants(h, 1, 1), -2);
        }
        int[] amounts = { -1, 10000000, Integer.MIN_VALUE, Integer.MAX_VALUE };
        for (int amount : amounts) {
            Check.due("has", x.has(0, amount, 0), -2);
            Check.due("state", x.state(0, amount), -2);
            Check.due("paid", x.paid(0, amount), -2);
            Check.due("level", x.level(amount, 0), -2);
            Check.due("flat", x.flat(0, amount, 0), -2);
            Check.due("unpaid", x.unpaid(amount), -2);
            Check.due("wants", x.wants(0, amount, 1), -2);
            Check.due("prefers", x.prefers(amount, 1), -2);
            Check.due("prefers", x.prefers(1, amount), -2);
            Check.due("passes", x.passes(amount, 1), -2);
            Check.due("passes", x.passes(1, amount), -2);
            Check.due("least", x.least(0, amount), -2);
        }
        Check.due("least 0", x.least(0, 0), -2);
        Check.due("has what", x.has(0, 1, 2), -2);
        Check.due("has what", x.has(0, 1, -1), -2);
        Check.due("level what", x.level(1, 2), -2);
        Check.due("flat what", x.flat(0, 1, 2), -2);
    }
}
