import java.nio.ByteBuffer;
import java.nio.charset.StandardCharsets;
import java.util.Arrays;
import java.util.Random;

/** Texts by seeds, most of them spoilt: MarshBells and Model find the same fault at the same place, and all stays then. */
public final class SpoiltTextsTest {
    private static final int TEXTS = Integer.getInteger("texts", 40000);
    private static final int[] FOUND = new int[7];

    private static MarshBells bells = new MarshBells();
    private static Model model = new Model();

    public static void main(String[] args) {
        for (int seed = 0; seed < TEXTS; seed++) {
            if (seed % 20 == 0) {
                bells = new MarshBells();
                model = new Model();
            }
            Random random = new Random(seed);
            SeededTexts texts = new SeededTexts(random);
            String text = texts.house();
            if (random.nextInt(8) > 0) text = texts.spoiltByTokens(text);
            if (random.nextInt(8) == 0) text = texts.spoiltBySigns(text);
            tell(text, random);
        }
        for (int fault = 0; fault < FOUND.length; fault++) {
            System.out.println(FOUND[fault] + " texts with fault " + fault);
            Check.same("fault " + fault + " comes up", FOUND[fault] > 0, true);
        }
        Check.end();
    }

    private static void tell(String text, Random random) {
        String before = Check.state(bells);
        byte[] bytes = Arrays.copyOf(text.getBytes(StandardCharsets.ISO_8859_1), (text.length() + 19) / 20 * 20);
        for (ByteBuffer b = ByteBuffer.wrap(bytes); b.remaining() >= 20; ) {
            int[] n = {b.getInt(), b.getInt(), b.getInt(), b.getInt(), b.getInt()};
            Check.same("feed", bells.feed(n[0], n[1], n[2], n[3], n[4]), model.feed(n[0], n[1], n[2], n[3], n[4]));
        }
        int fault = model.house(text.length());
        FOUND[fault]++;
        Check.same("house of\n" + text + "\n", bells.house(text.length()), fault);
        Check.same("fault() of\n" + text + "\n", bells.fault(), model.fault());
        Check.same("bytes of the tape", bells.count(8), 0);
        Check.same("STATUS 0", bells.count(9), model.count(9));
        if (fault != 0) {
            Check.same("all stays behind\n" + text + "\n", before.equals(Check.state(bells)), true);
            return;
        }
        for (int rule = MarshBells.NONE; rule < model.count(1); rule++) {
            Check.same("LOST by RULE " + rule + " of\n" + text + "\n", bells.compare(rule), model.compare(rule));
        }
        // In force or not, the next fault must leave it so.
        int rule = random.nextInt(3) - 1;
        Check.same("obey", bells.obey(rule), model.obey(rule));
    }
}
