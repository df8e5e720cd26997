import java.lang.reflect.InvocationTargetException;
import java.lang.reflect.Method;
import java.nio.ByteBuffer;
import java.nio.charset.StandardCharsets;
import java.util.ArrayList;
import java.util.Arrays;
import java.util.Comparator;
import java.util.List;
import java.util.Random;

/** Runs of calls by a seed on MarshBells and on Model: every answer and every exception must be the same. */
public final class ModelTest {
    private static final int RUNS = Integer.getInteger("runs", 1500);
    private static final List<Method> CALLS = calls();
    private static int wrong = 0;
    private static long asked = 0;

    private final Random random;
    private final SeededTexts texts;
    private final MarshBells bells = new MarshBells();
    private final Model model = new Model();
    private final List<String> log = new ArrayList<>();
    private int lessons = 0;

    private ModelTest(long seed) {
        random = new Random(seed);
        texts = new SeededTexts(random);
    }

    public static void main(String[] args) {
        for (int run = 0; run < RUNS && wrong == 0; run++) {
            new ModelTest(run).run(run);
        }
        System.out.println(asked + " answers compared with the model, " + wrong + " wrong");
        if (wrong != 0) System.exit(1);
    }

    private static List<Method> calls() {
        List<Method> calls = new ArrayList<>();
        for (Method m : MarshBells.class.getDeclaredMethods()) {
            boolean tape = List.of("feed", "house").contains(m.getName());
            if (java.lang.reflect.Modifier.isPublic(m.getModifiers()) && !tape) calls.add(m);
        }
        calls.sort(Comparator.comparing(Method::getName));
        return calls;
    }

    private void run(int seed) {
        int houses = 1 + random.nextInt(3);
        for (int h = 0; h < houses; h++) {
            String text = texts.house();
            if (random.nextInt(5) == 0) text = texts.spoiltBySigns(text);
            if (random.nextInt(5) == 0) text = texts.spoiltByTokens(text);
            tell(text);
            if (random.nextInt(8) == 0) call(method("house"), new Object[] {random.nextInt(4) - 2});
            lessons = model.count(0);
            int calls = 5 + random.nextInt(60);
            for (int c = 0; c < calls && wrong == 0; c++) anyCall();
        }
        if (wrong != 0) {
            System.out.println("seed " + seed);
            log.forEach(System.out::println);
        }
    }

    private void tell(String text) {
        byte[] bytes = Arrays.copyOf(text.getBytes(StandardCharsets.ISO_8859_1), (text.length() + 19) / 20 * 20);
        ByteBuffer buffer = ByteBuffer.wrap(bytes);
        log.add("text: " + text);
        while (buffer.remaining() >= 20) {
            Object[] five = new Object[5];
            for (int i = 0; i < 5; i++) five[i] = buffer.getInt();
            call(method("feed"), five);
        }
        call(method("house"), new Object[] {text.length()});
        call(method("fault"), new Object[0]);
        lessons = model.count(0);
        for (int lesson = 0; lesson < lessons; lesson++) {
            for (int what = 0; what < 12; what++) call(method("lesson"), new Object[] {lesson, what});
        }
    }

    private static Method method(String name) {
        for (Method m : MarshBells.class.getDeclaredMethods()) {
            if (m.getName().equals(name)) return m;
        }
        throw new IllegalStateException(name);
    }

    private void anyCall() {
        Method m = CALLS.get(random.nextInt(CALLS.size()));
        Object[] args = new Object[m.getParameterCount()];
        for (int i = 0; i < args.length; i++) args[i] = argument(m.getName(), i);
        call(m, args);
        if (random.nextInt(4) == 0) {
            call(method("count"), new Object[] {7});
        }
    }

    /** Mostly as the call wants it, now and then anything. */
    private int argument(String name, int i) {
        if (random.nextInt(25) == 0) {
            int[] odd = {-1, -2, Integer.MIN_VALUE, Integer.MAX_VALUE, 12, 99, 1000, 31, 61, 121, 4001};
            return odd[random.nextInt(odd.length)];
        }
        boolean lesson = List.of("lesson", "day", "chain", "become", "far", "slack", "gap", "chance", "mean", "room",
            "limit", "see", "shift").contains(name) && i == 0;
        if (lesson || List.of("reaches", "harm").contains(name)) return oneLesson();
        switch (name + i) {
            case "count0": return random.nextInt(16);
            case "lesson1": return random.nextInt(13);
            case "day1": return random.nextInt(6);
            case "chain1": return random.nextInt(5);
            case "become1": return random.nextInt(5);
            case "become2": return random.nextInt(random.nextInt(3) == 0 ? 110 : 12);
            case "obey0": return random.nextInt(7) - 1;
            case "compare0": return random.nextInt(7) - 1;
            case "far1": return random.nextInt(123);
            case "gaps0": return random.nextInt(1 << Math.max(1, Math.min(12, lessons))) & random.nextInt(1 << 12);
            case "gaps1": return oneLesson();
            case "gaps2": return lateOf();
            case "chance1": return lateOf();
            case "see1": return lateOf();
            case "bell0": return random.nextInt(62);
            case "term0": return random.nextInt();
            case "term1": return random.nextInt(8) == 0 ? random.nextInt(62) : random.nextInt(6);
            case "term2": return oneLesson();
            case "on0": return random.nextInt(10) == 0 ? random.nextInt(4002) : random.nextInt(400);
            case "pause0": return random.nextInt(32);
            default: return random.nextInt(name.equals("fits") || name.equals("term") ? 4 : 3);
        }
    }

    private int oneLesson() {
        return random.nextInt(lessons + (random.nextInt(10) == 0 ? 2 : lessons == 0 ? 1 : 0));
    }

    /** Often near how late a lesson is, so that both answers come up. */
    private int lateOf() {
        if (lessons == 0 || random.nextInt(5) == 0) return random.nextInt(80);
        return Math.max(0, model.day(random.nextInt(lessons), 2) + random.nextInt(5) - 2);
    }

    private void call(Method m, Object[] args) {
        asked++;
        String got = answer(m, bells, args);
        String want;
        try {
            want = answer(Model.class.getMethod(m.getName(), m.getParameterTypes()), model, args);
        } catch (NoSuchMethodException e) {
            throw new IllegalStateException(e);
        }
        log.add(m.getName() + Arrays.toString(args) + " = " + got);
        if (!got.equals(want)) {
            wrong++;
            log.add("   the model says " + want);
        }
    }

    private static String answer(Method m, Object on, Object[] args) {
        try {
            m.setAccessible(true);
            return String.valueOf(m.invoke(on, args));
        } catch (InvocationTargetException e) {
            return "throws." + e.getCause().getClass().getSimpleName();
        } catch (IllegalAccessException e) {
            throw new IllegalStateException(e);
        }
    }
}
