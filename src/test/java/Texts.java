import java.util.Random;

/** Texts by chance, the same ones for the same seed. */
final class Texts {
    private final Random chance;
    /** 0: small numbers; 1: any; 2: the greatest. */
    private final int size;

    Texts(Random chance, int size) {
        this.chance = chance;
        this.size = size;
    }

    int number(int least, int most) {
        if (size == 2 && chance.nextInt(3) > 0) {
            return most - chance.nextInt(Math.min(4, most - least + 1));
        }
        if (size == 0 || chance.nextInt(4) == 0) {
            return least + chance.nextInt(Math.min(12, most - least + 1));
        }
        return least + chance.nextInt(most - least + 1);
    }

    String text(int common, int option, int classes) {
        StringBuilder text = new StringBuilder();
        int[] left = { common, option, classes };
        boolean carve = chance.nextInt(3) == 0;
        int name = 0;
        while (left[0] + left[1] + left[2] > 0 || carve) {
            int kind = chance.nextInt(4);
            if (kind == 3) {
                if (carve) {
                    text.append("carve ").append(number(0, 50)).append(";");
                    carve = false;
                }
            } else if (left[kind] > 0) {
                left[kind]--;
                line(text, kind, "" + (char) ('a' + name++));
            }
        }
        return text.toString();
    }

    private void line(StringBuilder text, int kind, String name) {
        String[] words = { "common ", "option ", "class " };
        text.append(words[kind]).append(name).append(number(1, 9999));
        if (kind == 1) {
            text.append(" at").append(number(1, 999));
        }
        if (kind == 2) {
            text.append(" at").append(number(1, 99)).append(" rank").append(number(0, 5));
            if (chance.nextInt(2) == 0) {
                int[] usual = { 0, 100, 150, 200, 300, 400, 57 };
                text.append(" times").append(usual[chance.nextInt(usual.length)]);
            }
            if (chance.nextInt(2) == 0) {
                int[] usual = { 1, 33, 50, 100, 120, 200, 400, 97 };
                text.append(" ratio").append(usual[chance.nextInt(usual.length)]);
            }
            if (chance.nextInt(2) == 0) {
                text.append(" sharing");
                if (chance.nextInt(3) > 0) {
                    int[] usual = { 0, 100, 150, 200, 300, 2000, 457 };
                    text.append(" cap").append(usual[chance.nextInt(usual.length)]);
                }
            }
            if (chance.nextInt(3) == 0) {
                text.append(" yearly").append(number(0, 30)).append(" ").append(number(0, 20));
            }
        }
        text.append(";");
    }
}
