/** The edges of promises 1 to 7: the TAPE, the TEXT and its numbers, FAULTS, what is told of it. */
public final class TextEdgesTest {
    private static final int BLANKS = 0x20202020;
    private static final int[] FAR = { Integer.MIN_VALUE, Integer.MIN_VALUE + 1, -33, -32, -2, 32, 33, 64,
        Integer.MAX_VALUE - 1, Integer.MAX_VALUE };

    /** A firm with a SALE, GUESSES, a WAIVED class, ACTS, and bytes on the TAPE. */
    private static Made rich() {
        return Made.of("common f 100; class s 50 at 2 rank 0 sharing cap 300; option o 50 at 3; carve 7;")
            .then(x -> x.close(1000, 30)).then(x -> x.release(7, true)).then(x -> x.guess(500, 3))
            .then(x -> x.waive(1, true) ? 1 : 0).then(x -> x.grant(2, 4)).fed("common left 17; carve 3;");
    }

    public static void main(String[] args) {
        newObject();
        feedCountsUpToSevenHundred();
        feedBeyondSevenHundredIsRefused();
        feedTakesTheHighestByteFirst();
        feedComesBehindWhatIsThere();
        endOfSoManyBytes();
        endIsRefused();
        textOfSevenHundredBytes();
        textEmptiesTheTape();
        textTakesTheOldAway();
        textLeavesNothingOfAnEarlierOne();
        textWithFaultLeavesAllElse();
        threeThreeAndSix();
        numbersThatCanBe();
        whatIsThereWithoutBeingTold();
        faultOfTheLatestText();
        aboutItsEdges();
        holderItsEdges();
        prefItsEdges();
        Check.finish();
    }

    private static void newObject() {
        ExitFalls x = new ExitFalls();
        Check.due("no holders", x.about(0), 0);
        Check.due("no sale", x.sale(0), -2);
        Check.due("no fault", x.fault(0), 0);
        Check.due("no place", x.fault(1), -1);
        Check.due("nothing to undo", x.undo(), false);
        Check.due("no mean", x.mean(0), -2);
        Check.due("an empty tape", x.end(1), -1);
        Later.alike("a new object is one with an empty text", Made.empty().object(), Made.of("").object());
    }

    private static int feedBlanks(ExitFalls x) {
        return x.feed(BLANKS, BLANKS, BLANKS, BLANKS, BLANKS);
    }

    private static Made blanks(int bytes) {
        Made made = Made.empty();
        for (int at = 0; at < bytes; at += 20) {
            made.then(TextEdgesTest::feedBlanks);
        }
        return made.then(x -> x.end(bytes));
    }

    private static void feedCountsUpToSevenHundred() {
        ExitFalls x = new ExitFalls();
        for (int i = 1; i <= 35; i++) {
            Check.due("feed", feedBlanks(x), 20 * i);
            Check.due("bytes", x.about(3), 20 * i);
        }
        Check.due("feed too much", feedBlanks(x), -1);
        Check.due("bytes", x.about(3), 700);
        Check.due("feed too much again", feedBlanks(x), -1);
        int[] rooms = { 0, 1, 19, 20, 21, 660, 679, 680 };
        for (int bytes : rooms) {
            Check.due("feed behind " + bytes, feedBlanks(blanks(bytes).object()), bytes + 20);
        }
    }

    private static void feedBeyondSevenHundredIsRefused() {
        for (int bytes = 681; bytes <= 700; bytes++) {
            Later.refused("feed behind " + bytes, blanks(bytes), x -> x.feed(0, 0, 0, 0, 0), -1);
        }
        // what was refused is not there either when there is room again
        ExitFalls x = blanks(681).object();
        Check.due("refused", x.feed(0x21212121, 0x21212121, 0x21212121, 0x21212121, 0x21212121), -1);
        Check.due("end", x.end(680), 680);
        Check.due("feed", feedBlanks(x), 700);
        Check.due("text of blanks", x.text(), 0);
    }

    private static void feedTakesTheHighestByteFirst() {
        for (int at = 0; at < 20; at++) {
            int[] five = { BLANKS, BLANKS, BLANKS, BLANKS, BLANKS };
            five[at / 4] ^= (0x20 ^ 0xff) << 24 - at % 4 * 8;
            ExitFalls x = new ExitFalls();
            Check.due("feed", x.feed(five[0], five[1], five[2], five[3], five[4]), 20);
            Check.due("text", x.text(), -1);
            Check.due("fault", x.fault(0), 1);
            Check.due("place", x.fault(1), at);
        }
        ExitFalls x = new ExitFalls();
        Check.due("feed", x.feed(0x636f6d6d, 0x6f6e2061, 0x62636465, 0x66672031, 0x3233343b), 20);
        Check.due("common abcdefg 1234;", x.text(), 1);
        Check.due("shares", x.holder(0, 1), 1234);
    }

    private static void feedComesBehindWhatIsThere() {
        int[] cuts = { 0, 1, 19, 20 };
        for (int cut : cuts) {
            ExitFalls x = new ExitFalls();
            feedBlanks(x);
            Check.due("end", x.end(cut), cut);
            Check.due("feed", x.feed(0x21202020, BLANKS, BLANKS, BLANKS, BLANKS), cut + 20);
            Check.due("text", x.text(), -1);
            Check.due("place", x.fault(1), cut);
        }
    }

    private static void endOfSoManyBytes() {
        ExitFalls x = new ExitFalls();
        Check.due("end 0 of none", x.end(0), 0);
        feedBlanks(x);
        Check.due("end 20 of 20", x.end(20), 20);
        Check.due("end 19", x.end(19), 19);
        Check.due("end 19 again", x.end(19), 19);
        Check.due("what was cut is gone", x.end(20), -1);
        Check.due("end 1", x.end(1), 1);
        Check.due("end 0", x.end(0), 0);
        Check.due("bytes", x.about(3), 0);
        Check.due("end 1 of none", x.end(1), -1);
        Check.due("end 700 of 700", blanks(700).object().end(700), 700);
        Check.due("end 701 of 700", blanks(700).object().end(701), -1);
    }

    private static void endIsRefused() {
        int[] refused = { -1, 25, 26, 700, 701, Integer.MAX_VALUE, Integer.MIN_VALUE };
        for (int n : refused) {
            Later.refused("end " + n + " of 24", rich(), x -> x.end(n), -1);
            Later.refused("end " + n + " of none", Made.empty(), x -> x.end(n), -1);
        }
    }

    private static void textOfSevenHundredBytes() {
        String blanks = " ".repeat(690);
        ExitFalls x = Check.firm(blanks + "common a7;", 1);
        Check.due("shares", x.holder(0, 1), 7);
        Check.firm(blanks.substring(1) + "common a7;", 1);
        Check.fault(blanks + " common a7", 2, 700);
        Check.fault(blanks + "common a7", 2, 699);
        Check.fault(blanks + "common a7!", 1, 699);
        Check.firm(" ".repeat(700), 0);
        Check.firm("\n".repeat(700), 0);
        Check.fault("a".repeat(700), 1, 0);
        Check.fault("9".repeat(700), 1, 0);
        Check.fault(";".repeat(700), 2, 0);
        Check.fault(" ".repeat(696) + "1234", 2, 696);
        Check.fault(" ".repeat(695) + "12345", 1, 695);
        Check.fault(" ".repeat(693) + "common ", 2, 700);
        longestLines();
    }

    private static void longestLines() {
        StringBuilder text = new StringBuilder("carve 0050 ;");
        for (char c = 'a'; c < 'g'; c++) {
            text.append("class namenr").append(c).append(" 9999 at 0099 rank 0005 times 0400 ratio 0400 sharing")
                .append(" cap 2000 yearly 0030 0020;");
        }
        for (char c = 'g'; c < 'j'; c++) {
            text.append("common nr").append(c).append("9999;");
        }
        for (char c = 'j'; c < 'm'; c++) {
            text.append("option ").append(c).append("9999 at999;");
        }
        text.append(" ".repeat(700 - text.length()));
        ExitFalls x = Check.firm(text.toString(), 12);
        for (int h = 0; h < 12; h++) {
            Check.due("shares", x.holder(h, 1), 9999);
        }
        Check.due("carve", x.about(1), 50);
    }

    private static void textEmptiesTheTape() {
        ExitFalls x = new ExitFalls();
        Check.feed(x, "common a 1;".getBytes());
        Check.due("text", x.text(), 1);
        Check.due("bytes", x.about(3), 0);
        Check.due("end", x.end(1), -1);
        Check.feed(x, "common a 0;".getBytes());
        Check.due("text with a fault", x.text(), -1);
        Check.due("bytes", x.about(3), 0);
        Check.due("end", x.end(1), -1);
        Check.due("holders stay", x.about(0), 1);
        Check.due("an empty text", x.text(), 0);
        Check.due("is without holders", x.about(0), 0);
        Check.due("and without a fault", x.fault(0), 0);
        Check.due("feed", feedBlanks(x), 20);
    }

    private static void textTakesTheOldAway() {
        ExitFalls x = rich().object();
        Check.due("text", x.text(), 1);
        Later.alike("as it is on a new object", x, Made.of("common left 17; carve 3;").object());
    }

    private static void textLeavesNothingOfAnEarlierOne() {
        String most = "class a 9 at 9 rank 5 times 400 ratio 400 sharing cap 2000 yearly 30 20; carve 50;";
        String plain = "class a 9 at 9 rank 0;";
        ExitFalls x = Made.of(most).then(y -> y.grant(0, 5)).then(y -> y.rank(0, 3)).object();
        Check.due("text", Check.read(x, plain), 1);
        Later.alike("as it is on a new object", x, Made.of(plain).object());
        // a draft that was not taken leaves nothing either
        ExitFalls y = new ExitFalls();
        Check.due("text with a fault", Check.read(y, most + "carve"), -1);
        Check.due("text", Check.read(y, plain + "carve 1;"), 1);
        Later.alike("as it is on a new object", y, Made.of(plain + "carve 1;").object());
    }

    private static void textWithFaultLeavesAllElse() {
        String[] faulty = { "!", "x", "common left 17; carve 3; common left 1;", "carve 51;",
            "common a1;common b1;common c1;common d1;", "class s 9 at 9 rank 5 sharing cap 7" };
        int[] faults = { 1, 2, 3, 4, 5, 2 };
        for (int i = 0; i < faulty.length; i++) {
            ExitFalls x = rich().then(y -> y.end(0)).object();
            ExitFalls other = rich().then(y -> y.end(0)).object();
            Check.due("text", Check.read(x, faulty[i]), -1);
            Check.due("fault", x.fault(0), faults[i]);
            Later.alike("text with fault " + faults[i], x, other);
        }
    }

    private static String lines(int common, int option, int classes) {
        StringBuilder text = new StringBuilder();
        for (int i = 0; i < classes; i++) {
            text.append("class k").append((char) ('a' + i)).append(" 1 at 1 rank 0;");
        }
        for (int i = 0; i < option; i++) {
            text.append("option o").append((char) ('a' + i)).append(" 1 at 1;");
        }
        for (int i = 0; i < common; i++) {
            text.append("common c").append((char) ('a' + i)).append(" 1;");
        }
        return text.toString();
    }

    private static void threeThreeAndSix() {
        for (int common = 0; common <= 3; common++) {
            for (int option = 0; option <= 3; option++) {
                for (int classes = 0; classes <= 6; classes++) {
                    Check.firm(lines(common, option, classes), common + option + classes);
                }
            }
        }
        String[] most = { lines(3, 0, 0), lines(0, 3, 0), lines(0, 0, 6), lines(3, 3, 6) };
        for (String text : most) {
            String at = text + "carve 1;";
            String[] more = { "common zz 1;", "option zz 1 at 1;", "class zz 1 at 1 rank 0;" };
            int[] counts = { text.split("common").length - 1, text.split("option").length - 1, text.split("class").length - 1 };
            for (int kind = 0; kind < 3; kind++) {
                if (counts[kind] == (kind == 2 ? 6 : 3)) {
                    Check.fault(at + more[kind], 5, at.length());
                    Check.fault(at + more[kind].substring(0, 6).trim(), 5, at.length());
                } else {
                    Check.firm(at + more[kind], counts[0] + counts[1] + counts[2] + 1);
                }
            }
        }
        // a second carve can't stand there, also when it tells the same
        Check.fault("carve 0;carve 0;", 2, 8);
        Check.fault("common a1;carve 1;common b1;carve 1;", 2, 28);
        kindsAsTheyAreTold();
    }

    private static void kindsAsTheyAreTold() {
        ExitFalls x = Check.firm("option a1 at1;class b1 at1 rank0;carve 1;common c1;class d1 at1 rank0;option e1 at1;", 5);
        int[] kinds = { 1, 2, 0, 2, 1 };
        for (int h = 0; h < 5; h++) {
            Check.due("kind", x.holder(h, 0), kinds[h]);
        }
    }

    private static void numbers(String before, String behind, int what, int least, int most) {
        int[] some = { 0, 1, least, most, least - 1, most + 1, 9999 };
        for (int number : some) {
            String text = before + number + behind;
            if (number < 0) {
                Check.fault(text, 1, before.length());
            } else if (number > 9999) {
                Check.fault(text, 1, before.length());
            } else if (number < least || number > most) {
                Check.fault(text, 4, before.length());
            } else {
                Check.due("number in " + text, Check.firm(text, 1).holder(0, what), number);
            }
        }
    }

    private static void numbersThatCanBe() {
        numbers("common a ", ";", 1, 1, 9999);
        numbers("option a ", " at 1;", 1, 1, 9999);
        numbers("option a 1 at ", ";", 2, 1, 999);
        numbers("class a ", " at 1 rank 0;", 1, 1, 9999);
        numbers("class a 1 at ", " rank 0;", 2, 1, 99);
        numbers("class a 1 at 1 rank ", ";", 3, 0, 5);
        numbers("class a 1 at 1 rank 0 times ", ";", 4, 0, 400);
        numbers("class a 1 at 1 rank 0 ratio ", ";", 5, 1, 400);
        numbers("class a 1 at 1 rank 0 sharing cap ", ";", 7, 0, 2000);
        numbers("class a 1 at 1 rank 0 yearly ", " 0;", 8, 0, 30);
        numbers("class a 1 at 1 rank 0 yearly 0 ", ";", 9, 0, 20);
        int[] carves = { 0, 1, 49, 50, 51, 100, 9999 };
        for (int carve : carves) {
            if (carve <= 50) {
                Check.due("carve", Check.firm("carve " + carve + ";", 0).about(1), carve);
            } else {
                Check.fault("carve " + carve + ";", 4, 6);
            }
        }
        Check.fault("carve -1;", 1, 6);
    }

    private static void facts(String text, int... want) {
        ExitFalls x = Check.firm(text, 1);
        for (int what = 0; what < want.length; what++) {
            Check.due("holder " + what + " of " + text, x.holder(0, what), want[what]);
        }
    }

    private static void whatIsThereWithoutBeingTold() {
        facts("class a 3 at 4 rank 5;", 2, 3, 4, 5, 100, 100, 0, -1, 0, 0, 400);
        facts("class a 3 at 4 rank 5 times 0;", 2, 3, 4, 5, 0, 100, 0, -1, 0, 0, 0);
        facts("class a 3 at 4 rank 5 ratio 1;", 2, 3, 4, 5, 100, 1, 0, -1, 0, 0, 400);
        facts("class a 3 at 4 rank 5 sharing;", 2, 3, 4, 5, 100, 100, 1, -1, 0, 0, 400);
        facts("class a 3 at 4 rank 5 sharing cap 0;", 2, 3, 4, 5, 100, 100, 1, 0, 0, 0, 400);
        facts("class a 3 at 4 rank 5 yearly 2 3;", 2, 3, 4, 5, 100, 100, 0, -1, 2, 3, 424);
        facts("class a 3 at 4 rank 5 times 6 yearly 0 3;", 2, 3, 4, 5, 6, 100, 0, -1, 0, 3, 24);
        facts("class a 3 at 4 rank 5 times 6 ratio 7 sharing cap 8 yearly 9 1;", 2, 3, 4, 5, 6, 7, 1, 8, 9, 1, 60);
        Check.due("carve", Check.firm("common a 1;", 1).about(1), 0);
        // each may be left out, but they keep their order
        Check.fault("class a 3 at 4 rank 5 ratio 7 times 6;", 2, 30);
        Check.fault("class a 3 at 4 rank 5 sharing ratio 6;", 2, 30);
        Check.fault("class a 3 at 4 rank 5 yearly 1 1 sharing;", 2, 33);
        Check.fault("class a 3 at 4 rank 5 times 6 times 6;", 2, 30);
        Check.fault("class a 3 at 4 rank 5 cap 6;", 2, 22);
        Check.fault("class a 3 at 4 rank 5 yearly 6;", 2, 30);
        Check.fault("class a 3 rank 5 at 4;", 2, 10);
        Check.fault("class a 3 at 4;", 2, 14);
        Check.fault("option a 3 at 4 rank 5;", 2, 16);
        Check.fault("common a 3 at 4;", 2, 11);
    }

    private static void faultOfTheLatestText() {
        ExitFalls x = new ExitFalls();
        Check.due("ahead of any", x.fault(0), 0);
        Check.due("ahead of any", x.fault(1), -1);
        Check.due("text", Check.read(x, "common a 1;"), 1);
        Check.due("without", x.fault(0), 0);
        Check.due("without", x.fault(1), -1);
        Check.due("text", Check.read(x, "common a 0;"), -1);
        Check.due("a fault", x.fault(0), 4);
        Check.due("its place", x.fault(1), 9);
        Check.feed(x, "!".getBytes());
        x.grant(0, 1);
        x.undo();
        Check.due("as long as there is no text", x.fault(0), 4);
        Check.due("as long as there is no text", x.fault(1), 9);
        Check.due("text", x.text(), -1);
        Check.due("another one", x.fault(0), 1);
        Check.due("at the first byte", x.fault(1), 0);
        Check.due("text", x.text(), 0);
        Check.due("without again", x.fault(0), 0);
        Check.due("without again", x.fault(1), -1);
        Check.due("text", Check.read(x, "common a 0;"), -1);
        int[] others = { -1, 2, 3, 4, 9 };
        for (int what : others) {
            Check.due("fault " + what, x.fault(what), -1);
        }
        for (int what : FAR) {
            Check.due("fault " + what, x.fault(what), -1);
        }
    }

    private static void aboutItsEdges() {
        ExitFalls x = rich().object();
        int[] want = { 3, 7, 5, 24, 1, 2 };
        for (int what = 0; what <= 5; what++) {
            Check.due("about " + what, x.about(what), want[what]);
        }
        Check.due("about -1", x.about(-1), -1);
        Check.due("about 6", x.about(6), -1);
        for (int what : FAR) {
            Check.due("about " + what, x.about(what), -1);
        }
        ExitFalls twelve = Check.firm(lines(3, 3, 0) + lines(0, 0, 6), 12);
        for (int h = 6; h < 12; h++) {
            Check.due("waive", twelve.waive(h, true), true);
        }
        Check.due("waived, as bits", twelve.about(5), 0xfc0);
    }

    private static void holderItsEdges() {
        ExitFalls x = Check.firm("common f 1; option o 2 at 3; class s 4 at 5 rank 1;", 3);
        int[] last = { 1, 2, 10 };
        for (int h = 0; h < 3; h++) {
            for (int what = -2; what <= 13; what++) {
                boolean is = what >= 0 && what <= last[h] && !(h == 2 && what == 7);
                Check.due("holder " + h + " " + what, x.holder(h, what) >= 0, is);
                Check.due("holder " + h + " " + what, x.holder(h, what) == -2, what < 0 || what > last[h]);
            }
            for (int what : FAR) {
                Check.due("holder " + h + " " + what, x.holder(h, what), -2);
            }
        }
        Check.due("no cap", x.holder(2, 7), -1);
        int[] none = { -1, 3, 4, 11, 12, 13 };
        for (int h : none) {
            Check.due("holder " + h, x.holder(h, 0), -2);
        }
        for (int h : FAR) {
            Check.due("holder " + h, x.holder(h, 0), -2);
        }
        ExitFalls twelve = Check.firm(lines(3, 3, 6), 12);
        Check.due("holder 11", twelve.holder(11, 0), 0);
        Check.due("holder 12", twelve.holder(12, 0), -2);
    }

    private static void prefItsEdges() {
        facts("class a 1 at 99 rank 0 times 400 yearly 30 20;", 2, 1, 99, 0, 400, 100, 0, -1, 30, 20, 99000);
        facts("class a 1 at 1 rank 0 times 0;", 2, 1, 1, 0, 0, 100, 0, -1, 0, 0, 0);
        facts("class a 1 at 1 rank 0 times 0 yearly 1 1;", 2, 1, 1, 0, 0, 100, 0, -1, 1, 1, 1);
        facts("class a 1 at 1 rank 0 times 0 yearly 30 0;", 2, 1, 1, 0, 0, 100, 0, -1, 30, 0, 0);
        ExitFalls x = Check.firm("class a 1 at 99 rank 0 times 400 yearly 30 20;", 1);
        x.waive(0, true);
        Check.due("waived", x.holder(0, 10), 0);
        Check.due("times stay", x.holder(0, 4), 400);
        x.waive(0, false);
        Check.due("no more waived", x.holder(0, 10), 99000);
    }
}
