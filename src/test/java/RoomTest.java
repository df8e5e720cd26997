import java.lang.management.ManagementFactory;
import java.lang.reflect.Array;
import java.lang.reflect.Field;
import java.lang.reflect.Modifier;
import java.util.IdentityHashMap;
import java.util.Map;

/** All calls of a run live in one room: an object is small, and no call makes anything that stays behind. */
public final class RoomTest {
    private static long elements = 0;

    public static void main(String[] args) throws Exception {
        MarshBells bells = Check.told(dearest());
        Map<Object, Boolean> found = new IdentityHashMap<>();
        visit(bells, found);
        System.out.println(found.size() + " objects, " + elements + " fields and elements in one MarshBells");
        Check.same("objects", found.size() <= 120, true);
        Check.same("fields and elements", elements <= 5000, true);
        callAll(bells);
        com.sun.management.ThreadMXBean thread = (com.sun.management.ThreadMXBean) ManagementFactory.getThreadMXBean();
        long before = thread.getThreadAllocatedBytes(Thread.currentThread().getId());
        for (int i = 0; i < 12; i++) {
            callAll(bells);
        }
        long made = thread.getThreadAllocatedBytes(Thread.currentThread().getId()) - before;
        System.out.println(made + " bytes made by some five hundred calls");
        Check.same("no call makes an object", made < 20000, true);
        Check.end();
    }

    /** Twelve lessons that wait for all they can, unsure ones, and a rule that fills the rest. */
    static String dearest() {
        StringBuilder text = new StringBuilder("walk 2;stair 3;");
        for (int i = 0; i < 12; i++) {
            text.append("lesson ").append(i * 20).append(' ').append(i * 20 + 15).append(" 9 9 ").append(i * 7 % 10);
            text.append(" 9").append(i == 0 ? "" : i < 7 ? " all" : " some 4");
            for (int k = Math.max(0, i - 6); k < i; k++) {
                text.append(' ').append(k);
            }
            text.append(i < 9 ? " maybe 5;" : ";");
        }
        text.append("rule over");
        while (text.length() < 697) {
            text.append("+1");
        }
        return text.append(";").toString();
    }

    private static void callAll(MarshBells b) {
        b.obey(0);
        for (int lesson = 0; lesson < 12; lesson += 4) {
            b.day(lesson, 2);
            b.chain(lesson, 3);
            b.become(lesson, 0, 10);
            b.far(lesson, 100, 1);
            b.reaches(lesson, 11 - lesson);
            b.slack(lesson);
            b.gaps(31 << lesson / 2, 11, 30 + lesson);
            b.chance(11, lesson, 0);
            b.mean(lesson, 1);
            b.room(lesson, 1);
            b.limit(lesson, 1);
            b.shift(lesson, 1);
            b.harm(lesson, 11);
            b.term(lesson, 60, lesson, 0);
        }
        b.swap(1);
        b.last();
        b.best();
        b.bell(5);
        b.fits(1);
        b.streams();
        b.busiest(1);
        b.idle();
        b.pair(0);
        b.pause(5, 0);
        b.image();
        b.restore();
        b.undo();
        b.undo();
    }

    private static void visit(Object o, Map<Object, Boolean> found) throws Exception {
        if (o == null || found.put(o, true) != null) {
            return;
        }
        if (o.getClass().isArray()) {
            elements += Array.getLength(o);
            for (int i = 0; i < Array.getLength(o) && !o.getClass().getComponentType().isPrimitive(); i++) {
                visit(Array.get(o, i), found);
            }
            return;
        }
        for (Field f : o.getClass().getDeclaredFields()) {
            if (!Modifier.isStatic(f.getModifiers())) {
                elements++;
                f.setAccessible(true);
                if (!f.getType().isPrimitive()) {
                    visit(f.get(o), found);
                }
            }
        }
    }
}
