/** The edges of promises 32 to 35: shares granted, preferences waived, ranks, UNDO. */
public final class ActEdgesTest {
    private static final String FOUR = "common f 100; class s 50 at 2 rank 0; option o 50 at 3;"
        + "class t 9 at 9 rank 5 sharing cap 300;";
    private static final int[] NO_HOLDERS = { -1, 4, 5, 12, 31, 32, 33, 35, 64, Integer.MIN_VALUE, Integer.MAX_VALUE };

    public static void main(String[] args) {
        grantItsEdges();
        grantIsRefused();
        waiveItsEdges();
        waiveIsRefused();
        rankItsEdges();
        rankIsRefused();
        undoWithoutActs();
        undoOfEachKind();
        twelveAreKept();
        whatWasUndoneIsGone();
        aRefusedCallIsNoAct();
        undoIsNoAct();
        textAndActs();
        roundTheTwelveAgain();
        upToTheLastCall();
        Check.finish();
    }

    /** States in which a call can be refused: few ACTS, all twelve kept, bytes on the TAPE. */
    private static Made[] states() {
        Made full = Made.of(FOUR);
        for (int i = 0; i < 13; i++) {
            full.then(x -> x.grant(2, 1));
        }
        return new Made[] { Made.of(FOUR), Made.of(FOUR).then(x -> x.waive(3, true) ? 1 : 0)
            .then(x -> x.guess(50, 5)).then(x -> x.close(70, 10)).fed("common left 17; carve 1;"), full };
    }

    private static void grantItsEdges() {
        for (int h = 0; h < 4; h++) {
            ExitFalls x = Check.firm(FOUR, 4);
            int shares = x.holder(h, 1);
            Check.due("one more", x.grant(h, 1), shares + 1);
            Check.due("shares", x.holder(h, 1), shares + 1);
            Check.due("all but one", x.grant(h, 9997 - shares), 9998);
            Check.due("the last one", x.grant(h, 1), 9999);
            Check.due("no more", x.grant(h, 1), -1);
            Check.due("shares", x.holder(h, 1), 9999);
            Check.due("acts", x.about(2), 3);
        }
        Check.due("9998 more", Check.firm("common a 1;", 1).grant(0, 9998), 9999);
        Check.due("9999 more", Check.firm("common a 1;", 1).grant(0, 9999), -1);
        Check.due("1 more", Check.firm("common a 9998;", 1).grant(0, 1), 9999);
        Check.due("2 more", Check.firm("common a 9998;", 1).grant(0, 2), -1);
        Check.due("1 more", Check.firm("common a 9999;", 1).grant(0, 1), -1);
    }

    private static void grantIsRefused() {
        int[] counts = { 0, -1, -100, 9900, 9999, 10000, Integer.MIN_VALUE, Integer.MAX_VALUE, Integer.MAX_VALUE - 99 };
        for (Made made : states()) {
            for (int n : counts) {
                Later.refused("grant 0 " + n, made, x -> x.grant(0, n), -1);
            }
            for (int h : NO_HOLDERS) {
                Later.refused("grant " + h, made, x -> x.grant(h, 1), -1);
            }
        }
        Later.refused("grant on a new object", Made.empty(), x -> x.grant(0, 1), -1);
        Check.due("9899 more are just not too many", Check.firm(FOUR, 4).grant(0, 9899), 9999);
    }

    private static void waiveItsEdges() {
        ExitFalls x = Check.firm(FOUR, 4);
        Check.due("waive s", x.waive(1, true), true);
        Check.due("bits", x.about(5), 2);
        Check.due("waive t", x.waive(3, true), true);
        Check.due("bits", x.about(5), 10);
        Check.due("s no more", x.waive(1, false), true);
        Check.due("bits", x.about(5), 8);
        Check.due("t no more", x.waive(3, false), true);
        Check.due("bits", x.about(5), 0);
        Check.due("acts", x.about(2), 4);
    }

    private static void waiveIsRefused() {
        boolean[] both = { false, true };
        for (boolean is : both) {
            Made so = Made.of(FOUR).then(x -> x.waive(1, true) ? 1 : 0).then(x -> x.waive(3, true) ? 1 : 0);
            Made alike = is ? so : Made.of(FOUR);
            Later.refused("waive so already", alike, x -> x.waive(1, is) ? 1 : 0, 0);
            Later.refused("waive so already", alike, x -> x.waive(3, is) ? 1 : 0, 0);
            for (Made made : states()) {
                Later.refused("waive a common", made, x -> x.waive(0, is) ? 1 : 0, 0);
                Later.refused("waive an option", made, x -> x.waive(2, is) ? 1 : 0, 0);
                for (int h : NO_HOLDERS) {
                    Later.refused("waive " + h, made, x -> x.waive(h, is) ? 1 : 0, 0);
                }
            }
            Later.refused("waive on a new object", Made.empty(), x -> x.waive(0, is) ? 1 : 0, 0);
        }
    }

    private static void rankItsEdges() {
        ExitFalls x = Check.firm(FOUR, 4);
        int[] ranks = { 5, 4, 1, 0, 3, 2 };
        int had = 0;
        for (int rank : ranks) {
            Check.due("rank " + rank, x.rank(1, rank), had);
            Check.due("rank now", x.holder(1, 3), rank);
            had = rank;
        }
        Check.due("the other one's", x.holder(3, 3), 5);
        Check.due("0 of 5", x.rank(3, 0), 5);
    }

    private static void rankIsRefused() {
        int[] ranks = { -1, 6, -2, 7, Integer.MIN_VALUE, Integer.MAX_VALUE };
        for (Made made : states()) {
            for (int rank : ranks) {
                Later.refused("rank " + rank, made, x -> x.rank(1, rank), -1);
            }
            Later.refused("the rank that it has", made, x -> x.rank(1, 0), -1);
            Later.refused("the rank that it has", made, x -> x.rank(3, 5), -1);
            Later.refused("rank of a common", made, x -> x.rank(0, 3), -1);
            Later.refused("rank of an option", made, x -> x.rank(2, 3), -1);
            for (int h : NO_HOLDERS) {
                Later.refused("rank of " + h, made, x -> x.rank(h, 3), -1);
            }
        }
        Later.refused("rank on a new object", Made.empty(), x -> x.rank(0, 1), -1);
    }

    private static void undoWithoutActs() {
        Later.refused("undo on a new object", Made.empty(), x -> x.undo() ? 1 : 0, 0);
        Later.refused("undo behind a text", Made.of(FOUR).fed("carve 1;"), x -> x.undo() ? 1 : 0, 0);
        Later.refused("undo when all is undone", Made.of(FOUR).then(x -> x.grant(0, 1)).then(x -> x.undo() ? 1 : 0),
            x -> x.undo() ? 1 : 0, 0);
    }

    /** What is undone leaves an object as if the ACT had never been. */
    private static void undoOfEachKind() {
        Made before = Made.of(FOUR).then(x -> x.close(100, 50)).then(x -> x.guess(5, 5)).then(x -> x.waive(3, true) ? 1 : 0);
        Later.refused("close", before, x -> x.close(7, 7) >= 0 && x.undo() ? 1 : 0, 1);
        Later.refused("let go", before, x -> x.release(7, false) >= 0 && x.undo() ? 1 : 0, 1);
        Later.refused("lost", before, x -> x.release(7, true) >= 0 && x.undo() ? 1 : 0, 1);
        Later.refused("guess", before, x -> x.guess(7, 7) >= 0 && x.undo() ? 1 : 0, 1);
        Later.refused("grant", before, x -> x.grant(2, 7) >= 0 && x.undo() ? 1 : 0, 1);
        Later.refused("waive", before, x -> x.waive(1, true) && x.undo() ? 1 : 0, 1);
        Later.refused("waive no more", before, x -> x.waive(3, false) && x.undo() ? 1 : 0, 1);
        Later.refused("rank", before, x -> x.rank(1, 4) >= 0 && x.undo() ? 1 : 0, 1);
        Later.refused("the first sale", Made.of(FOUR), x -> x.close(7, 7) >= 0 && x.undo() ? 1 : 0, 1);
    }

    private static ExitFalls granted(int acts) {
        ExitFalls x = Check.firm(FOUR, 4);
        for (int i = 1; i <= acts; i++) {
            Check.due("grant", x.grant(0, 1), 100 + i);
        }
        return x;
    }

    private static void twelveAreKept() {
        int[] counts = { 0, 1, 11, 12, 13, 14, 23, 24, 25, 36, 37 };
        for (int acts : counts) {
            ExitFalls x = granted(acts);
            int kept = Math.min(acts, 12);
            Check.due("kept of " + acts, x.about(2), kept);
            for (int i = 1; i <= kept; i++) {
                Check.due("undo", x.undo(), true);
                Check.due("shares", x.holder(0, 1), 100 + acts - i);
                Check.due("kept", x.about(2), kept - i);
            }
            Check.due("the oldest are gone", x.undo(), false);
            Check.due("shares", x.holder(0, 1), 100 + acts - kept);
        }
    }

    private static void whatWasUndoneIsGone() {
        ExitFalls x = granted(3);
        Check.due("undo", x.undo() && x.undo(), true);
        Check.due("shares", x.holder(0, 1), 101);
        Check.due("another act", x.grant(0, 50), 151);
        Check.due("acts", x.about(2), 2);
        Check.due("undo", x.undo(), true);
        Check.due("shares", x.holder(0, 1), 101);
        Check.due("undo", x.undo(), true);
        Check.due("shares", x.holder(0, 1), 100);
        Check.due("no more", x.undo(), false);
    }

    private static void aRefusedCallIsNoAct() {
        ExitFalls x = granted(12);
        x.grant(0, 0);
        x.waive(0, true);
        x.rank(1, 0);
        x.close(-1, 0);
        x.release(1, true);
        x.guess(1, 0);
        Check.due("acts", x.about(2), 12);
        for (int i = 11; i >= 0; i--) {
            Check.due("undo", x.undo(), true);
            Check.due("shares", x.holder(0, 1), 100 + i);
        }
        Check.due("none is left", x.undo(), false);
    }

    private static void undoIsNoAct() {
        ExitFalls x = granted(2);
        Check.due("undo", x.undo(), true);
        Check.due("acts", x.about(2), 1);
        Check.due("undo takes back the one before, not itself", x.undo(), true);
        Check.due("shares", x.holder(0, 1), 100);
        Check.due("acts", x.about(2), 0);
        Check.due("no more", x.undo(), false);
    }

    private static void textAndActs() {
        ExitFalls x = granted(3);
        Check.due("a text with a fault", Check.read(x, "common"), -1);
        Check.due("acts stay", x.about(2), 3);
        Check.due("undo", x.undo(), true);
        Check.due("shares", x.holder(0, 1), 102);
        Check.due("a text", Check.read(x, FOUR), 4);
        Check.due("no acts", x.about(2), 0);
        Check.due("undo", x.undo(), false);
        Check.due("shares", x.holder(0, 1), 100);
        // feed and end are no ACTS
        x.grant(0, 1);
        Check.feed(x, "carve 1;".getBytes());
        Check.due("acts", x.about(2), 1);
        Check.due("undo", x.undo(), true);
        Check.due("bytes stay", x.about(3), 8);
    }

    private static boolean act(ExitFalls x, int i) {
        switch (i % 7) {
            case 0: return x.close(1000 + i, 50) >= 0;
            case 1: return x.release(i, true) >= 0;
            case 2: return x.release(i, false) >= 0;
            case 3: return x.guess(i, i) >= 0;
            case 4: return x.grant(i % 4, i) >= 0;
            case 5: return x.waive(1, i % 2 == 1);
            default: return x.rank(3, i / 7) >= 0;
        }
    }

    private static String picture(ExitFalls x) {
        StringBuilder all = new StringBuilder();
        for (int what = 0; what <= 3; what++) {
            all.append(x.sale(what)).append(' ');
        }
        all.append(x.about(4)).append(' ').append(x.about(5)).append(' ').append(x.mean(0)).append(' ').append(x.holder(3, 3));
        for (int h = 0; h < 4; h++) {
            all.append(' ').append(x.holder(h, 1));
        }
        return all.toString();
    }

    /** ACTS of all kinds, nearly three times as many as are kept, with some undone among them. */
    private static void roundTheTwelveAgain() {
        for (int acts = 1; acts <= 34; acts++) {
            ExitFalls x = Check.firm(FOUR, 4);
            String[] before = new String[acts];
            for (int i = 0; i < acts; i++) {
                before[i] = acts - i <= 12 ? picture(x) : "";
                Check.due("act " + i, act(x, i), true);
                if (i % 5 == 4) {
                    Check.due("undo", x.undo(), true);
                    Check.due("act again", act(x, i), true);
                }
            }
            int kept = Math.min(acts, 12);
            Check.due("kept", x.about(2), kept);
            for (int i = acts - 1; i >= acts - kept; i--) {
                Check.due("undo", x.undo(), true);
                Check.due("as before act " + i, picture(x).equals(before[i]), true);
            }
            Check.due("no more", x.undo(), false);
        }
    }

    /** An object is promised for 512 calls: the last ones are answered as the first ones. */
    private static void upToTheLastCall() {
        ExitFalls x = Check.firm(FOUR, 4);
        int calls = (FOUR.length() + 19) / 20 + 2;
        for (; calls < 508; calls += 3) {
            Check.due("grant", x.grant(0, 7), 107);
            Check.due("shares", x.holder(0, 1), 107);
            Check.due("undo", x.undo(), true);
        }
        for (; calls < 511; calls++) {
            Check.due("nothing to undo", x.undo(), false);
        }
        // 181 units are PREFS, of the rest f has 100 of 109 parts
        Check.due("the 512th call", x.paid(0, 281), 92);
    }
}
