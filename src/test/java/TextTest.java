import java.util.Random;

/** Texts, whole and spoilt at one byte, read by the class and by the model. */
final class TextTest {
    private static final String SPOIL = "windowearmillslowplayeroffset0123456789--;;;   AZ.\u0000\t\u00e9\u00ff";

    private TextTest() {}

    public static void main(String[] args) {
        Due due = new Due("TextTest");
        Random random = new Random(33);
        TownPlayers town = null;
        Model model = null;
        for (int k = 0; k < 20000; k++) {
            if (k % 4 == 0) {
                town = new TownPlayers();
                model = new Model();
            }
            String text = k % 3 == 0 ? someText(random) : spoilt(someText(random), random);
            model.text = text;
            due.is("read() of '" + text + "'", Due.read(town, text), model.read());
            due.is("digest() behind '" + text + "'", town.digest(), model.digest());
        }
        due.end();
    }

    private static String spoilt(String text, Random random) {
        int at = random.nextInt(text.length() + 1);
        char c = SPOIL.charAt(random.nextInt(SPOIL.length()));
        int how = random.nextInt(3);
        if (how == 0) return text.length() < 250 ? text.substring(0, at) + c + text.substring(at) : text;
        if (at == text.length()) return text;
        return how == 1 ? text.substring(0, at) + c + text.substring(at + 1) : text.substring(0, at) + text.substring(at + 1);
    }

    static String someText(Random random) {
        StringBuilder text = new StringBuilder();
        int items = random.nextInt(16), windows = 0, players = 0;
        for (int k = 0; k < items; k++) {
            StringBuilder item = new StringBuilder();
            switch (random.nextInt(10)) {
                case 0, 1, 2 -> {
                    item.append("window").append(blanks(random)).append(number(random, 99)).append(' ').append(number(random, 99));
                    windows++;
                }
                case 3 -> item.append("ear").append(blanks(random)).append(number(random, 99)).append("  ").append(number(random, 99));
                case 4 -> item.append("mill ").append(number(random, 99)).append(' ').append(number(random, 99));
                case 5 -> item.append("slow").append(blanks(random)).append(number(random, 9));
                case 6, 7, 8 -> {
                    item.append("player").append(blanks(random)).append(number(random, 5)).append(' ');
                    item.append(number(random, Math.max(0, windows - 1))).append(' ').append(number(random, 99));
                    players++;
                }
                default -> {
                    item.append("offset ").append(number(random, Math.max(0, players - 1)));
                    item.append(random.nextBoolean() ? blanks(random) + "-" + blanks(random) : " ").append(number(random, 500));
                }
            }
            item.append(blanks(random)).append(';').append(blanks(random));
            if (text.length() + item.length() <= 250) text.append(item);
        }
        return text.toString();
    }

    private static String blanks(Random random) {
        return "  ".substring(random.nextInt(3));
    }

    /** A number as told, at times one too many, at times with noughts ahead. */
    private static String number(Random random, int top) {
        int v = random.nextInt(60) == 0 ? top + 1 : random.nextInt(top + 1);
        String figures = Integer.toString(v);
        return random.nextInt(12) == 0 && figures.length() < 3 ? "0" + figures : figures;
    }
}
