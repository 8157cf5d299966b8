/** The edges of TOKENS, NAMES and FAULTS ("Terms"; promises 4, 5): each with its neighbours. */
public final class TokenEdgesTest {
    private static final String[] KEPT = { "common", "option", "class", "at", "rank", "times", "ratio", "sharing",
        "cap", "yearly", "carve" };

    public static void main(String[] args) {
        everyByteAtTheStart();
        everyByteBehindAWord();
        everyByteBehindADigit();
        everyByteBehindTheSign();
        wordsOfSevenLettersAtMost();
        numbersOfFourDigitsAtMost();
        noLetterDirectlyBehindADigit();
        blanksPartThemOrNot();
        eachAsLongAsCanBe();
        namesAreNoKeptWords();
        noTwoNamesAlike();
        theFirstFaultByItsPlace();
        theLeastFaultAtOnePlace();
        theEndIsTheTextsLength();
        Check.finish();
    }

    private static boolean isBlank(char sign) {
        return sign == 32 || sign == 10;
    }

    private static boolean isLetter(char sign) {
        return "abcdefghijklmnopqrstuvwxyz".indexOf(sign) >= 0;
    }

    private static boolean isDigit(char sign) {
        return "0123456789".indexOf(sign) >= 0;
    }

    private static boolean isPartOfTokens(char sign) {
        return isLetter(sign) || isDigit(sign) || sign == ';';
    }

    private static ExitFalls good(String text, int holders) {
        return Check.firm(text, holders);
    }

    private static void oneShares(String text, int shares) {
        Check.due("shares of " + text, good(text, 1).holder(0, 1), shares);
    }

    private static void everyByteAtTheStart() {
        for (char sign = 0; sign <= 255; sign++) {
            String text = "" + sign;
            if (isBlank(sign)) {
                good(text, 0);
            } else {
                Check.fault(text, isPartOfTokens(sign) ? 2 : 1, 0);
            }
        }
    }

    private static void everyByteBehindAWord() {
        for (char sign = 0; sign <= 255; sign++) {
            String text = "common b" + sign + "1;";
            if (isBlank(sign) || isLetter(sign)) {
                oneShares(text, 1);
            } else if (isDigit(sign)) {
                oneShares(text, (sign - '0') * 10 + 1);
            } else {
                Check.fault(text, sign == ';' ? 2 : 1, 8);
            }
        }
    }

    private static void everyByteBehindADigit() {
        for (char sign = 0; sign <= 255; sign++) {
            String text = "common a 1" + sign + ";";
            if (isBlank(sign)) {
                oneShares(text, 1);
            } else if (isDigit(sign)) {
                oneShares(text, 10 + sign - '0');
            } else if (isLetter(sign)) {
                Check.fault(text, 1, 9);
            } else {
                Check.fault(text, sign == ';' ? 2 : 1, sign == ';' ? 11 : 10);
            }
        }
    }

    private static void everyByteBehindTheSign() {
        for (char sign = 0; sign <= 255; sign++) {
            String text = "carve 1;" + sign;
            if (isBlank(sign)) {
                Check.due("carve", good(text, 0).about(1), 1);
            } else {
                Check.fault(text, isPartOfTokens(sign) ? 2 : 1, 8);
            }
        }
    }

    private static void wordsOfSevenLettersAtMost() {
        for (int letters = 1; letters <= 7; letters++) {
            good("common " + "z".repeat(letters) + " 1;", 1);
            good("common " + "a".repeat(letters) + "1;", 1);
        }
        int[] tooMany = { 8, 9, 12, 13, 14, 32, 64, 600 };
        for (int letters : tooMany) {
            Check.fault("common " + "z".repeat(letters) + " 1;", 1, 7);
            Check.fault("a".repeat(letters), 1, 0);
        }
        Check.fault("commons a 1;", 2, 0);
        Check.fault("commonss a 1;", 1, 0);
        Check.fault("class a 1 at 1 rank 0 sharings;", 1, 22);
        Check.fault("class a 1 at 1 rank 0 sharin;", 2, 22);
        // what the letters of a longer word would be, were only the last ones or the first ones looked at
        Check.fault("acommon a 1;", 2, 0);
        Check.fault("aacommon a 1;", 1, 0);
        Check.fault("common aaaaaaaaaaaaab 1;", 1, 7);
    }

    private static void numbersOfFourDigitsAtMost() {
        String[] ones = { "1", "01", "001", "0001" };
        for (String one : ones) {
            oneShares("common a " + one + ";", 1);
            oneShares("common a" + one + ";", 1);
        }
        oneShares("common a 9999;", 9999);
        oneShares("common a 0999;", 999);
        // the last two are 2 to the 32nd, to the 64th, and 1
        String[] tooLong = { "00001", "10000", "99999", "000001", "0000000000000001", "4294967297",
            "18446744073709551617" };
        for (String number : tooLong) {
            Check.fault("common a " + number + ";", 1, 9);
            Check.fault("common a" + number + ";", 1, 8);
            Check.fault("carve " + number + ";", 1, 6);
        }
        Check.due("carve", good("carve 0050;", 0).about(1), 50);
        Check.fault("carve 00050;", 1, 6);
    }

    private static void noLetterDirectlyBehindADigit() {
        Check.fault("option a 1at 1;", 1, 9);
        good("option a 1 at 1;", 1);
        good("option a1 at1;", 1);
        Check.fault("option a1at1;", 1, 8);
        Check.fault("common a 1a", 1, 9);
        Check.fault("common a 1z;", 1, 9);
        Check.fault("common a 9999a;", 1, 9);
        Check.fault("common a 0x1;", 1, 9);
        Check.fault("common a 99999a;", 1, 9);
        Check.fault("common 1a 1;", 1, 7);
        Check.fault("1a", 1, 0);
        // letters are a .. z: the number stands, and what is no TOKEN is the FAULT
        Check.fault("common a 1A;", 1, 10);
        Check.fault("common a 1_;", 1, 10);
        cutBetweenDigitAndLetter();
    }

    private static void cutBetweenDigitAndLetter() {
        ExitFalls x = new ExitFalls();
        Check.feed(x, "common a 1b;".getBytes());
        Check.due("end", x.end(10), 10);
        Check.due("text", x.text(), -1);
        Check.due("the end can't stand there", x.fault(0), 2);
        Check.due("place", x.fault(1), 10);
    }

    private static void blanksPartThemOrNot() {
        oneShares("common a1;", 1);
        oneShares("common a 1 ;", 1);
        oneShares("common\na\n1\n;\n", 1);
        oneShares("  \n common \n\n a  1\n ;  ", 1);
        good("common a1;common b1;", 2);
        good("common a1;\ncommon b1;", 2);
        good("", 0);
        good(" ", 0);
        good("\n", 0);
        good(" \n \n", 0);
        good("carve5;", 0);
    }

    private static void eachAsLongAsCanBe() {
        Check.fault("commona 1;", 2, 0);
        Check.fault("commo na 1;", 2, 0);
        Check.fault("common a12 34;", 2, 11);
        Check.due("shares", good("common a1234;", 1).holder(0, 1), 1234);
        Check.fault("class a 1 at 1 rank 0 sharingcap 5;", 1, 22);
        Check.fault("class a 1 at 1 rank 0 sharing ca p 5;", 2, 30);
        Check.fault("class a 1 at 1 rank 0 yearly 1020;", 4, 29);
        good("class a 1 at 1 rank 0 yearly 10 20;", 1);
        Check.fault("carve 5 0;", 2, 8);
    }

    private static void namesAreNoKeptWords() {
        for (String word : KEPT) {
            Check.fault("common " + word + " 1;", 2, 7);
            Check.fault("option " + word + " 1 at 1;", 2, 7);
            Check.fault("class " + word + " 1 at 1 rank 0;", 2, 6);
            good("common " + word.substring(1) + " 1;", 1);
            good("common " + word.substring(0, word.length() - 1) + " 1;", 1);
            if (word.length() < 7) {
                good("common " + word + "a 1;", 1);
                good("common a" + word + " 1;", 1);
            } else {
                Check.fault("common " + word + "a 1;", 1, 7);
            }
        }
    }

    private static void noTwoNamesAlike() {
        String[] lines = { "common NAME 1;", "option NAME 1 at 1;", "class NAME 1 at 1 rank 0;" };
        for (String one : lines) {
            for (String other : lines) {
                String first = one.replace("NAME", "ab");
                Check.fault(first + other.replace("NAME", "ab"), 3, first.length() + other.indexOf("NAME"));
                String[] unlike = { "a", "b", "aab", "abb", "ba", "ac", "bb", "abab" };
                for (String name : unlike) {
                    good(first + other.replace("NAME", name), 2);
                }
            }
        }
        for (char letter = 'a'; letter <= 'z'; letter++) {
            String name = "" + letter;
            good("common " + name + " 1;common " + name + name + " 1;common " + name.repeat(7) + " 1;", 3);
            good("common x" + name + " 1;common " + name + "x" + name + " 1;common xyx" + name + " 1;", 3);
            Check.fault("common " + name.repeat(7) + " 1;common " + name.repeat(7) + " 1;", 3, 24);
        }
        good("common aaaaaaa 1;common aaaaaab 1;common baaaaaa 1;", 3);
        good("common aaaaaaa 1;common aaaaaa 1;", 2);
        Check.fault("common a 1;common b 1;common a 1;", 3, 29);
        Check.fault("common a 1;common b 1;common b 1;", 3, 29);
        Check.fault("common a 1;carve 1;option a 1 at 1;", 3, 26);
        namesOfOtherTexts();
    }

    private static void namesOfOtherTexts() {
        ExitFalls x = new ExitFalls();
        Check.due("text", Check.read(x, "common a 1; common b 2;"), 2);
        Check.due("the same names again", Check.read(x, "option b 1 at 1; common a 2;"), 2);
        Check.due("a text with a fault", Check.read(x, "common c 1; common d 0;"), -1);
        Check.due("its names again", Check.read(x, "common d 1; common c 1;"), 2);
    }

    private static void theFirstFaultByItsPlace() {
        Check.fault("common a 0; common a 1;", 4, 9);
        Check.fault("common a 1; common a 0;", 3, 19);
        Check.fault("carve 51; carve 1;", 4, 6);
        Check.fault("carve 1; carve 51;", 2, 9);
        Check.fault("common a 1 !", 1, 11);
        Check.fault("common a ; !", 2, 9);
        Check.fault("common ! ;", 1, 7);
        Check.fault("common a1;common b1;common c1;common a !", 5, 30);
        Check.fault("common a1;common b1;common c1;common! ", 5, 30);
        Check.fault("carve 1;carve!", 2, 8);
        Check.fault("x!", 2, 0);
        Check.fault("!x", 1, 0);
        Check.fault("common a 0!", 4, 9);
    }

    private static void theLeastFaultAtOnePlace() {
        Check.fault("common a 10000;", 1, 9);
        Check.fault("option a 1 at 10000;", 1, 14);
        Check.fault("option a 1 at 1000;", 4, 14);
        Check.fault("common a 0a;", 1, 9);
        Check.fault("common a abcdefgh;", 1, 9);
        Check.fault("common a abcdefg;", 2, 9);
        Check.fault("common 12345 1;", 1, 7);
        Check.fault("common 1234 1;", 2, 7);
        Check.fault("common abcdefgh 1;", 1, 7);
        Check.fault("common a 1 12345", 1, 11);
        Check.fault("common a1;common b1;common c1;commonss", 1, 30);
        Check.fault("common a1;common b1;common c1;commons", 2, 30);
        Check.fault("carve 1;carvesss", 1, 8);
    }

    /** A line that is cut: its rest can't stand there, at the end, or at a word that is cut. */
    private static void theEndIsTheTextsLength() {
        String line = "class ab 12 at 34 rank 5 times 67 ratio 89 sharing cap 10 yearly 11 12 ;";
        for (int n = 1; n < line.length(); n++) {
            int start = n;
            while (start > 0 && isLetter(line.charAt(start - 1))) {
                start--;
            }
            boolean isCutWord = start < n && isLetter(line.charAt(n)) && start != 6;
            Check.fault(line.substring(0, n), 2, isCutWord ? start : n);
        }
        good(line, 1);
        good(line.substring(0, 0), 0);
        Check.fault("common a 1 \n  ", 2, 14);
        Check.fault("carve", 2, 5);
        Check.fault("carve ", 2, 6);
        Check.fault("carve 5", 2, 7);
        Check.fault("common a 1;common", 2, 17);
    }
}
