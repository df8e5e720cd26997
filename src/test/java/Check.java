import java.nio.ByteBuffer;
import java.nio.charset.StandardCharsets;
import java.util.Arrays;
import java.util.NoSuchElementException;

/** What the tests share: texts told to an object, and answers compared with what is due. */
final class Check {
    /** The house of the document's tests: 1 waits for 0, 2 for one of both, 3 minutes at most. */
    static final String THREE = "lesson 0 45 40 9 1 20;lesson 50 95 40 0 7 10 all 0;"
        + "lesson 50 95 40 5 2 8 some 1 0 1 limit 3;walk 1;stair 10;";

    private static int wrong = 0;
    private static int asked = 0;

    private Check() {
    }

    static void feed(MarshBells bells, String text) {
        byte[] bytes = Arrays.copyOf(text.getBytes(StandardCharsets.ISO_8859_1), (text.length() + 19) / 20 * 20);
        ByteBuffer buffer = ByteBuffer.wrap(bytes);
        while (buffer.remaining() >= 20) {
            bells.feed(buffer.getInt(), buffer.getInt(), buffer.getInt(), buffer.getInt(), buffer.getInt());
        }
    }

    static int tell(MarshBells bells, String text) {
        feed(bells, text);
        return bells.house(text.length());
    }

    static MarshBells told(String text) {
        MarshBells bells = new MarshBells();
        same("house " + text, tell(bells, text), 0);
        return bells;
    }

    /** A house with one lesson whose OVER is 7, under a rule that is in force. */
    static MarshBells ruled(String rule) {
        MarshBells bells = told("lesson 100 110 5 7 3 8;rule " + rule + ";");
        same("obey " + rule, bells.obey(0), true);
        return bells;
    }

    static void same(String what, long got, long want) {
        asked++;
        if (got != want) {
            wrong++;
            System.out.println(what + " answered " + got + ", due is " + want);
        }
    }

    static void same(String what, boolean got, boolean want) {
        same(what, got ? 1 : 0, want ? 1 : 0);
    }

    static void missing(String what, Runnable call) {
        same(what + " throws NoSuchElementException", thrown(call) == NoSuchElementException.class, true);
    }

    static void illegal(String what, Runnable call) {
        same(what + " throws IllegalArgumentException", thrown(call) == IllegalArgumentException.class, true);
    }

    private static Class<?> thrown(Runnable call) {
        try {
            call.run();
            return null;
        } catch (RuntimeException e) {
            return e.getClass();
        }
    }

    static void end() {
        System.out.println(asked + " answers, " + wrong + " not as due");
        if (wrong != 0) {
            System.exit(1);
        }
    }
}
