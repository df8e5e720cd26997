import java.io.IOException;
import java.nio.ByteBuffer;
import java.nio.charset.StandardCharsets;
import java.nio.file.Files;
import java.nio.file.Path;
import java.util.Arrays;
import java.util.NoSuchElementException;

/** What the tests share: texts told to an object, and answers compared with what is due. */
final class Check {
    /** The house of the document's tests: 1 waits for 0, 2 for one of both, 3 minutes at most. */
    static final String THREE = "lesson 0 45 40 9 1 20;lesson 50 95 40 0 7 10 all 0;"
        + "lesson 50 95 40 5 2 8 some 1 0 1 limit 3;walk 1;stair 10;";

    private static final int NONE = MarshBells.NONE;
    private static final String DOCUMENT = document();

    private static int wrong = 0;
    private static int asked = 0;
    private static int sentences = 0;
    private static String sentence = "";

    private Check() {
    }

    private static String document() {
        try {
            return Files.readString(Path.of("../shared/DOC.md"));
        } catch (IOException e) {
            return "";
        }
    }

    /** One sentence of the document, in its words, and a test of its own: new objects alone are asked in it. */
    static void sentence(String words, Runnable test) {
        sentence = "'" + words + "': ";
        sentences++;
        if (!DOCUMENT.contains(words)) {
            System.out.println("(not, or no more, in the document's words: " + words + ")");
        }
        try {
            test.run();
        } catch (RuntimeException e) {
            wrong++;
            System.out.println(sentence + "threw " + e);
        }
        sentence = "";
    }

    static void feed(MarshBells bells, String text) {
        byte[] bytes = Arrays.copyOf(text.getBytes(StandardCharsets.ISO_8859_1), (text.length() + 19) / 20 * 20);
        ByteBuffer buffer = ByteBuffer.wrap(bytes);
        while (buffer.remaining() >= 20) {
            bells.feed(buffer.getInt(), buffer.getInt(), buffer.getInt(), buffer.getInt(), buffer.getInt());
        }
    }

    static int tell(MarshBells bells, String text) {
        feed(bells, text);
        return bells.house(text.length());
    }

    static MarshBells told(String text) {
        MarshBells bells = new MarshBells();
        same("house " + text, tell(bells, text), 0);
        return bells;
    }

    /** A house with one lesson whose OVER is 7, under a rule that is in force. */
    static MarshBells ruled(String rule) {
        MarshBells bells = told("lesson 100 110 5 7 3 8;rule " + rule + ";");
        same("obey " + rule, bells.obey(0), true);
        return bells;
    }

    /** The text has this fault at this place, and is counted for it. */
    static void refused(String text, int fault, int place) {
        MarshBells bells = new MarshBells();
        same("house '" + text + "'", tell(bells, text), fault);
        same("fault of '" + text + "'", bells.fault(), place);
        same("STATUS 0 of '" + text + "'", bells.count(9), fault == 0 ? 0 : 1);
    }

    static void taken(String text) {
        refused(text, 0, MarshBells.NONE);
    }

    /** What a rule gives for that one lesson, kept to 0 to 60. */
    static void given(String rule, int want) {
        same("rule " + rule, ruled(rule).day(0, 3), want);
    }

    static void same(String what, long got, long want) {
        asked++;
        if (got != want) {
            wrong++;
            System.out.println(sentence + what + " answered " + got + ", due is " + want);
        }
    }

    static void same(String what, boolean got, boolean want) {
        same(what, got ? 1 : 0, want ? 1 : 0);
    }

    static void missing(String what, Runnable call) {
        same(what + " throws NoSuchElementException", thrown(call) == NoSuchElementException.class, true);
    }

    static void illegal(String what, Runnable call) {
        same(what + " throws IllegalArgumentException", thrown(call) == IllegalArgumentException.class, true);
    }

    private static Class<?> thrown(Runnable call) {
        try {
            call.run();
            return null;
        } catch (RuntimeException e) {
            return e.getClass();
        }
    }

    /** The house and its day, without the tape and STATUS. */
    static String state(MarshBells b) {
        StringBuilder all = new StringBuilder();
        for (int what : new int[] {0, 1, 2, 3, 4, 5, 6, 7, 12, 13, 14}) {
            all.append(b.count(what)).append(' ');
        }
        for (int lesson = 0; lesson < b.count(0); lesson++) {
            for (int what = 0; what < 12; what++) {
                all.append(b.lesson(lesson, what)).append(' ');
            }
            for (int what = 0; what < 5; what++) {
                all.append(b.day(lesson, what)).append(' ');
            }
        }
        return all.toString();
    }

    static String all(MarshBells b) {
        return state(b) + b.count(8) + ' ' + b.count(9) + ' ' + b.count(10) + ' ' + b.count(11);
    }

    /** What every call that only asks answers now; GAPS are kept by it. */
    static String answers(MarshBells b) {
        StringBuilder all = new StringBuilder(state(b)).append("| ");
        long[] whole = {b.swap(0), b.swap(1), b.last(), b.compare(NONE), b.best(), b.bell(0), b.bell(3), b.fits(0), b.fits(1),
            b.fits(2), b.streams(), b.clash(0), b.clash(1), b.busiest(0), b.busiest(1), b.idle(), b.pair(0), b.pair(1),
            b.pause(1, 0), b.pause(1, 1), b.pause(30, 0), b.pause(30, 1), b.on(10, 0), b.on(10, 1), b.on(60, 0), b.on(60, 1)};
        for (long answer : whole) {
            all.append(answer).append(' ');
        }
        int set = (1 << b.count(0)) - 1 & 0b11111;
        for (int lesson = 0; lesson < b.count(0); lesson++) {
            int other = (lesson + 1) % b.count(0);
            long[] each = {b.chain(lesson, 1), b.chain(lesson, 2), b.far(lesson, 5, 0), b.far(lesson, 90, 1), b.slack(lesson),
                other == lesson ? 0 : b.reaches(lesson, other), b.gaps(set, lesson, 2), b.gaps(0, lesson, 999), b.gap(lesson),
                b.chance(lesson, 2, 0), b.chance(lesson, 2, 1), b.mean(lesson, 0), b.mean(lesson, 1), b.room(lesson, 0),
                b.room(lesson, 1), b.limit(lesson, 0), b.limit(lesson, 1), b.term(5, 9, lesson, 0), b.term(5, 9, lesson, 1),
                b.term(5, 9, lesson, 2), b.shift(lesson, 0), b.shift(lesson, 1), b.harm(lesson, other), b.harm(other, lesson)};
            for (long answer : each) {
                all.append(answer).append(' ');
            }
        }
        return all.toString();
    }

    static void end() {
        String of = sentences == 0 ? "" : " of " + sentences + " sentences";
        System.out.println(asked + " answers" + of + ", " + wrong + " not as due");
        if (wrong != 0) {
            System.exit(1);
        }
    }
}
