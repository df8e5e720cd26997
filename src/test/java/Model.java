import java.util.ArrayList;
import java.util.Arrays;
import java.util.List;
import java.util.NoSuchElementException;
import java.util.function.IntSupplier;
import java.util.function.ToIntFunction;

/**
 * The document once more, as plainly as it goes and without a thought for speed: every trial is a whole copy of the
 * house, every search goes through all there is. Tests compare MarshBells with it.
 */
final class Model {
    static final int NONE = -1;
    static final List<String> VALUES = List.of("over", "late", "clock", "room", "people", "lesson");

    static final class Fault extends RuntimeException {
        final int code;
        final int place;

        Fault(int code, int place) {
            this.code = code;
            this.place = place;
        }
    }

    record Token(char kind, String text, int place) { }

    /** kind: 'n' a number, 'v' a value, otherwise the operator's sign (! & | for words). */
    record Expr(char kind, int number, Expr left, Expr right) { }

    static final class Lesson implements Cloneable {
        int from, to, least, over, room, people, sort = 2, some, limit = 99, maybe = 10, gap;
        List<Integer> waits = new ArrayList<>();
        boolean runs = true;
        int most = 60;

        Lesson copy() {
            try {
                return (Lesson) clone();
            } catch (CloneNotSupportedException e) {
                throw new IllegalStateException(e);
            }
        }
    }

    static final class House {
        List<Lesson> lessons = new ArrayList<>();
        List<Expr> rules = new ArrayList<>();
        int walk = 1, stair = 99, rule = NONE;

        House copy() {
            House h = new House();
            for (Lesson l : lessons) h.lessons.add(l.copy());
            h.rules = rules;
            h.walk = walk;
            h.stair = stair;
            h.rule = rule;
            return h;
        }
    }

    record Way(int start, int end, boolean up, int people) { }

    static final class Result {
        int[] begin, end, late, ran, by;
        int lost, together, idle;
        List<Way> ways = new ArrayList<>();
    }

    record Act(int lesson, int what, int old) { }

    private byte[] tape = new byte[0];
    private House house = new House();
    private List<Act> acts = new ArrayList<>();
    private List<int[]> seen = new ArrayList<>();
    private House keptHouse;
    private List<Act> keptActs;
    private List<int[]> keptSeen;
    private int[] keptGaps;
    private int place = NONE;
    private final int[] status = new int[3];

    // ---------------------------------------------------------------- the text

    private List<Token> tokens;
    private int at;
    private int length;

    private static List<Token> split(byte[] text) {
        List<Token> all = new ArrayList<>();
        int i = 0;
        while (i < text.length) {
            int c = text[i] & 255;
            int from = i;
            if (c == 32 || c == 10) {
                i++;
                continue;
            }
            String kind = c >= 'a' && c <= 'z' ? "abcdefghijklmnopqrstuvwxyz" : c >= '0' && c <= '9' ? "0123456789" : null;
            if (kind != null) {
                while (i < text.length && kind.indexOf(text[i] & 255) >= 0) i++;
                all.add(new Token(kind.charAt(0) == 'a' ? 'w' : 'n', new String(text, from, i - from), from));
            } else {
                i++;
                all.add(new Token(";()+-*/<=".indexOf(c) >= 0 ? 's' : '?', String.valueOf((char) c), from));
            }
        }
        return all;
    }

    private Token token() {
        return at < tokens.size() ? tokens.get(at) : new Token('e', "", length);
    }

    private boolean is(String text) {
        return "ws".indexOf(token().kind) >= 0 && token().text.equals(text);
    }

    private boolean take(String text) {
        if (!is(text)) return false;
        at++;
        return true;
    }

    private void fail(int code) {
        throw new Fault(code, token().place);
    }

    private void need(String text) {
        if (!take(text)) fail(1);
    }

    private int number(int least, int most) {
        Token t = token();
        if (t.kind != 'n') fail(1);
        if (t.text.length() > 4) fail(2);
        int n = Integer.parseInt(t.text);
        if (n < least || n > most) fail(2);
        at++;
        return n;
    }

    private House parse(byte[] text) {
        tokens = split(text);
        at = 0;
        length = text.length;
        House h = new House();
        boolean walk = false;
        boolean stair = false;
        while (token().kind != 'e') {
            if (is("lesson")) {
                if (h.lessons.size() == 12) fail(2);
                at++;
                h.lessons.add(lessonLine(h.lessons.size()));
            } else if (is("walk")) {
                if (walk) fail(5);
                walk = true;
                at++;
                h.walk = number(0, 9);
            } else if (is("stair")) {
                if (stair) fail(5);
                stair = true;
                at++;
                h.stair = number(1, 99);
            } else if (is("rule")) {
                if (h.rules.size() == 4) fail(2);
                at++;
                h.rules.add(expr(0));
            } else {
                fail(1);
            }
            need(";");
        }
        return h;
    }

    private Lesson lessonLine(int me) {
        Lesson l = new Lesson();
        l.from = number(0, 999);
        l.to = number(l.from + 1, 999);
        l.least = number(1, 200);
        l.over = number(0, 60);
        l.room = number(0, 9);
        l.people = number(1, 99);
        if (take("all")) {
            l.sort = 0;
            waits(l, me);
        } else if (take("some")) {
            l.sort = 1;
            l.some = number(1, 6);
            waits(l, me);
        }
        if (take("limit")) l.limit = number(0, 99);
        if (take("maybe")) l.maybe = number(0, 10);
        if (take("gap")) l.gap = number(0, 30);
        return l;
    }

    private void waits(Lesson l, int me) {
        while (token().kind == 'n') {
            if (l.waits.size() == 6 || token().text.length() > 4) fail(2);
            int n = Integer.parseInt(token().text);
            if (n >= me) fail(3);
            if (l.waits.contains(n)) fail(4);
            l.waits.add(n);
            at++;
        }
        if (l.sort == 1 && l.some > l.waits.size()) fail(6);
        if (l.waits.isEmpty()) fail(1);
    }

    private Expr expr(int depth) {
        if (depth == 6 && (token().kind == 'n' || token().kind == 'w' || is("("))) fail(2);
        Expr left = and(depth);
        while (take("or")) left = new Expr('|', 0, left, and(depth));
        return left;
    }

    private Expr and(int depth) {
        Expr left = not(depth, 0);
        while (take("and")) left = new Expr('&', 0, left, not(depth, 0));
        return left;
    }

    private Expr not(int depth, int nots) {
        if (is("not")) {
            if (nots == 6) fail(2);
            at++;
            return new Expr('!', 0, not(depth, nots + 1), null);
        }
        Expr left = sum(depth);
        if (take("<")) return new Expr('<', 0, left, sum(depth));
        if (take("=")) return new Expr('=', 0, left, sum(depth));
        return left;
    }

    private Expr sum(int depth) {
        Expr left = product(depth);
        while (is("+") || is("-")) {
            char op = token().text.charAt(0);
            at++;
            left = new Expr(op, 0, left, product(depth));
        }
        return left;
    }

    private Expr product(int depth) {
        Expr left = part(depth);
        while (is("*") || is("/")) {
            char op = token().text.charAt(0);
            at++;
            left = new Expr(op, 0, left, part(depth));
        }
        return left;
    }

    private Expr part(int depth) {
        Token t = token();
        if (t.kind == 'n') return new Expr('n', number(0, 9999), null, null);
        if (t.kind == 'w') {
            if (!VALUES.contains(t.text)) fail(3);
            at++;
            return new Expr('v', VALUES.indexOf(t.text), null, null);
        }
        if (!take("(")) fail(1);
        Expr inner = expr(depth + 1);
        need(")");
        return inner;
    }

    private static int value(Expr e, int[] values) {
        if (e.kind == 'n') return e.number;
        if (e.kind == 'v') return values[e.number];
        int a = value(e.left, values);
        if (e.kind == '!') return a == 0 ? 1 : 0;
        int b = value(e.right, values);
        return switch (e.kind) {
            case '+' -> a + b;
            case '-' -> a - b;
            case '*' -> a * b;
            case '/' -> b == 0 ? 0 : a / b;
            case '<' -> a < b ? 1 : 0;
            case '=' -> a == b ? 1 : 0;
            case '&' -> a != 0 && b != 0 ? 1 : 0;
            default -> a != 0 || b != 0 ? 1 : 0;
        };
    }

    // ---------------------------------------------------------------- a day

    private static int way(House h, Lesson a, Lesson b) {
        int minutes = h.walk * Math.abs(a.room - b.room);
        if (stairs(a, b)) minutes += (int) Math.ceil(a.people / (double) h.stair);
        return minutes;
    }

    private static boolean stairs(Lesson a, Lesson b) {
        return a.room < 5 && b.room >= 5 || a.room >= 5 && b.room < 5;
    }

    private static Result run(House h) {
        int n = h.lessons.size();
        Result r = new Result();
        r.begin = new int[n];
        r.end = new int[n];
        r.late = new int[n];
        r.ran = new int[n];
        r.by = new int[n];
        for (int i = 0; i < n; i++) {
            Lesson l = h.lessons.get(i);
            List<Integer> comings = new ArrayList<>();
            for (int w : l.waits) comings.add(r.end[w] + way(h, h.lessons.get(w), l) - l.gap);
            r.begin[i] = l.from;
            r.by[i] = NONE;
            if (l.sort != 2) {
                int[] sorted = comings.stream().mapToInt(x -> x).sorted().toArray();
                int due = sorted[(l.sort == 0 ? sorted.length : l.some) - 1];
                r.begin[i] = Math.min(Math.max(l.from, due), l.from + l.limit);
                if (r.begin[i] > l.from && r.begin[i] == due) r.by[i] = l.waits.get(comings.indexOf(due));
            }
            int given = l.over;
            int[] values = {l.over, r.begin[i] - l.from, r.begin[i], l.room, l.people, i};
            if (h.rule != NONE) given = value(h.rules.get(h.rule), values);
            r.ran[i] = l.runs ? Math.max(0, Math.min(l.most, given)) : 0;
            r.end[i] = Math.max(l.to, r.begin[i] + l.least) + r.ran[i];
            r.late[i] = r.end[i] - l.to;
            r.lost += r.late[i] * l.people;
            r.together += r.late[i];
            for (int w : l.waits) {
                Lesson from = h.lessons.get(w);
                int there = r.end[w] + way(h, from, l) - l.gap;
                if (there < r.begin[i]) r.idle += from.people * (r.begin[i] - there);
                if (stairs(from, l)) {
                    r.ways.add(new Way(r.end[w], r.end[w] + way(h, from, l), l.room > from.room, from.people));
                }
            }
        }
        return r;
    }

    private Result now() {
        return run(house);
    }

    // ---------------------------------------------------------------- the face

    private void needLesson(int lesson) {
        if (lesson < 0 || lesson >= house.lessons.size()) throw new NoSuchElementException();
    }

    private void needWhat(int what, int most) {
        if (what < 0 || what > most) throw new NoSuchElementException();
    }

    private void need(boolean holds) {
        if (!holds) throw new IllegalArgumentException();
    }

    public int feed(int a, int b, int c, int d, int e) {
        if (tape.length > 680) return NONE;
        byte[] more = java.nio.ByteBuffer.allocate(20).putInt(a).putInt(b).putInt(c).putInt(d).putInt(e).array();
        byte[] longer = Arrays.copyOf(tape, tape.length + 20);
        System.arraycopy(more, 0, longer, tape.length, 20);
        tape = longer;
        return tape.length;
    }

    public int house(int n) {
        need(n >= 0 && n <= tape.length);
        byte[] text = Arrays.copyOf(tape, n);
        tape = new byte[0];
        try {
            house = parse(text);
        } catch (Fault f) {
            place = f.place;
            status[0]++;
            return f.code;
        }
        place = NONE;
        acts = new ArrayList<>();
        seen = new ArrayList<>();
        keptHouse = null;
        keptGaps = null;
        return 0;
    }

    public int fault() {
        return place;
    }

    public int count(int what) {
        needWhat(what, 14);
        Result r = now();
        int late = 0;
        int latest = 0;
        int later = 0;
        for (int i = 0; i < r.late.length; i++) {
            if (r.late[i] >= 1) late++;
            latest = Math.max(latest, r.late[i]);
            if (r.begin[i] > house.lessons.get(i).from) later++;
        }
        int[] all = {house.lessons.size(), house.rules.size(), house.rule, house.walk, house.stair, acts.size(),
            seen.size(), r.lost, tape.length, status[0], status[1], status[2], late, latest, later};
        return all[what];
    }

    public int lesson(int lesson, int what) {
        needLesson(lesson);
        needWhat(what, 11);
        Lesson l = house.lessons.get(lesson);
        int bits = 0;
        for (int w : l.waits) bits += 1 << w;
        int[] all = {l.from, l.to, l.least, l.over, l.room, l.people, l.sort, l.some, bits, l.limit, l.maybe, l.gap};
        return all[what];
    }

    public int day(int lesson, int what) {
        needLesson(lesson);
        needWhat(what, 4);
        Result r = now();
        return new int[][] {r.begin, r.end, r.late, r.ran, r.by}[what][lesson];
    }

    public int chain(int lesson, int i) {
        needLesson(lesson);
        if (i < 0) throw new NoSuchElementException();
        List<Integer> chain = new ArrayList<>();
        Result r = now();
        for (int at = lesson; at != NONE; at = r.by[at]) chain.add(at);
        return i < chain.size() ? chain.get(i) : NONE;
    }

    private static int get(Lesson l, int what) {
        return new int[] {l.over, l.gap, l.room, l.limit}[what];
    }

    private static void set(Lesson l, int what, int v) {
        if (what == 0) l.over = v;
        if (what == 1) l.gap = v;
        if (what == 2) l.room = v;
        if (what == 3) l.limit = v;
    }

    private void act(Act act) {
        acts.add(act);
        if (acts.size() > 40) acts.remove(0);
    }

    public int become(int lesson, int what, int v) {
        needLesson(lesson);
        needWhat(what, 3);
        if (v < 0 || v > new int[] {60, 30, 9, 99}[what]) {
            status[1]++;
            return NONE;
        }
        Lesson l = house.lessons.get(lesson);
        int old = get(l, what);
        act(new Act(lesson, what, old));
        set(l, what, v);
        return old;
    }

    public boolean obey(int rule) {
        if (rule < -1 || rule >= house.rules.size()) {
            status[1]++;
            return false;
        }
        act(new Act(NONE, 4, house.rule));
        house.rule = rule;
        return true;
    }

    public int undo() {
        if (acts.isEmpty()) return NONE;
        Act act = acts.remove(acts.size() - 1);
        if (act.what == 4) house.rule = act.old;
        else set(house.lessons.get(act.lesson), act.what, act.old);
        return acts.size();
    }

    private Result more(int lesson, int minutes) {
        House h = house.copy();
        h.lessons.get(lesson).over += minutes;
        h.lessons.get(lesson).most = 180;
        return run(h);
    }

    private int laterBits(int lesson, int minutes) {
        Result was = now();
        Result is = more(lesson, minutes);
        int bits = 0;
        for (int i = 0; i < was.end.length; i++) {
            if (is.end[i] > was.end[i]) bits |= 1 << i;
        }
        return bits;
    }

    public int far(int lesson, int minutes, int what) {
        needLesson(lesson);
        needWhat(what, 1);
        need(minutes >= 0 && minutes <= 120);
        return what == 0 ? laterBits(lesson, minutes) : more(lesson, minutes).together - now().together;
    }

    public int reaches(int lesson, int other) {
        needLesson(lesson);
        needLesson(other);
        need(lesson != other);
        for (int m = 1; m <= 120; m++) {
            if ((laterBits(lesson, m) & 1 << other) != 0) return m;
        }
        return NONE;
    }

    public int slack(int lesson) {
        needLesson(lesson);
        int most = 0;
        for (int m = 0; m <= 120; m++) {
            int others = laterBits(lesson, m) & ~(1 << lesson);
            if (others == 0) most = m;
        }
        return most;
    }

    public int gaps(int set, int lesson, int late) {
        needLesson(lesson);
        need(late >= 0 && late <= 999);
        List<Integer> members = new ArrayList<>();
        for (int i = 0; i < 32; i++) {
            if ((set >>> i & 1) != 0) {
                need(i < house.lessons.size());
                members.add(i);
            }
        }
        need(members.size() <= 5);
        int rows = 1;
        for (int i = 0; i < members.size(); i++) rows *= 5;
        int fewest = NONE;
        int[] kept = null;
        House h = house.copy();
        for (int row = 0; row < rows; row++) {
            int rest = row;
            int sum = 0;
            for (int k = members.size() - 1; k >= 0; k--) {
                h.lessons.get(members.get(k)).gap = rest % 5;
                sum += rest % 5;
                rest /= 5;
            }
            if ((fewest == NONE || sum < fewest) && run(h).late[lesson] <= late) {
                fewest = sum;
                kept = h.lessons.stream().mapToInt(l -> l.gap).toArray();
            }
        }
        if (kept != null) keptGaps = kept;
        return fewest;
    }

    public int gap(int lesson) {
        needLesson(lesson);
        if (keptGaps == null) throw new NoSuchElementException();
        return keptGaps[lesson];
    }

    private long[] expect(ToIntFunction<Result> of) {
        List<Integer> unsure = new ArrayList<>();
        House h = house.copy();
        for (int i = 0; i < h.lessons.size(); i++) {
            Lesson l = h.lessons.get(i);
            if (l.maybe == 0) l.runs = false;
            else if (l.maybe < 10 && unsure.size() < 8) unsure.add(i);
        }
        long upper = 0;
        long lower = 1;
        for (int k = 0; k < unsure.size(); k++) lower *= 10;
        for (int mask = 0; mask < 1 << unsure.size(); mask++) {
            long weight = 1;
            for (int k = 0; k < unsure.size(); k++) {
                Lesson l = h.lessons.get(unsure.get(k));
                l.runs = (mask & 1 << k) != 0;
                weight *= l.runs ? l.maybe : 10 - l.maybe;
            }
            upper += weight * of.applyAsInt(run(h));
        }
        long common = java.math.BigInteger.valueOf(upper).gcd(java.math.BigInteger.valueOf(lower)).longValue();
        return new long[] {upper / common, lower / common};
    }

    public long chance(int lesson, int late, int what) {
        needLesson(lesson);
        needWhat(what, 1);
        need(late >= 0 && late <= 999);
        return expect(r -> r.late[lesson] > late ? 1 : 0)[what];
    }

    public long mean(int lesson, int what) {
        needLesson(lesson);
        needWhat(what, 1);
        return expect(r -> r.late[lesson])[what];
    }

    /** The first of the candidates by which LOST is least: {candidate, LOST}, or null without candidates. */
    private static int[] least(List<int[]> candidates) {
        int[] best = null;
        for (int[] c : candidates) {
            if (best == null || c[1] < best[1]) best = c;
        }
        return best;
    }

    private static int told(int[] best, int what) {
        return best == null ? NONE : best[what];
    }

    public int swap(int what) {
        needWhat(what, 1);
        List<int[]> all = new ArrayList<>();
        for (int a = 0; a < house.lessons.size(); a++) {
            for (int b = a + 1; b < house.lessons.size(); b++) {
                House h = house.copy();
                h.lessons.get(a).over = house.lessons.get(b).over;
                h.lessons.get(b).over = house.lessons.get(a).over;
                all.add(new int[] {100 * a + b, run(h).lost});
            }
        }
        int[] best = least(all);
        return best == null || best[1] >= now().lost ? NONE : best[what];
    }

    private int leastOf(int lesson, int kind, int most, int what) {
        List<int[]> all = new ArrayList<>();
        for (int v = 0; v <= most; v++) {
            House h = house.copy();
            set(h.lessons.get(lesson), kind, v);
            all.add(new int[] {v, run(h).lost});
        }
        return told(least(all), what);
    }

    public int room(int lesson, int what) {
        needLesson(lesson);
        needWhat(what, 1);
        return leastOf(lesson, 2, 9, what);
    }

    public int limit(int lesson, int what) {
        needLesson(lesson);
        needWhat(what, 1);
        return leastOf(lesson, 3, 99, what);
    }

    public int last() {
        List<int[]> all = new ArrayList<>();
        for (int i = 0; i < house.lessons.size(); i++) {
            House h = house.copy();
            h.lessons.get(i).over = 0;
            all.add(new int[] {i, run(h).lost});
        }
        return told(least(all), 0);
    }

    public int compare(int rule) {
        if (rule < -1 || rule >= house.rules.size()) throw new NoSuchElementException();
        House h = house.copy();
        h.rule = rule;
        return run(h).lost;
    }

    public int best() {
        List<int[]> all = new ArrayList<>();
        for (int rule = -1; rule < house.rules.size(); rule++) all.add(new int[] {rule, compare(rule)});
        return told(least(all), 0);
    }

    public int bell(int minutes) {
        need(minutes >= 0 && minutes <= 60);
        House h = house.copy();
        for (Lesson l : h.lessons) l.over = Math.min(l.over, minutes);
        return now().lost - run(h).lost;
    }

    public int see(int lesson, int late) {
        needLesson(lesson);
        if (seen.size() == 8 || late < 0 || late > 999) {
            status[2]++;
            return NONE;
        }
        seen.add(new int[] {lesson, late});
        return seen.size();
    }

    public void forget() {
        seen = new ArrayList<>();
    }

    public int fits(int what) {
        needWhat(what, 2);
        List<Integer> all = new ArrayList<>();
        for (int i = 0; i < house.lessons.size(); i++) {
            for (int m = 0; m <= 30; m++) {
                House h = house.copy();
                h.lessons.get(i).over = m;
                Result r = run(h);
                if (seen.stream().allMatch(s -> r.late[s[0]] == s[1])) all.add(100 * i + m);
            }
        }
        if (what == 0) return all.size();
        if (all.isEmpty()) return NONE;
        if (what == 1) return all.get(0);
        int who = all.get(0) / 100;
        return all.stream().allMatch(f -> f / 100 == who) ? who : NONE;
    }

    public int streams() {
        List<Way> ways = now().ways;
        int many = 0;
        for (int a = 0; a < ways.size(); a++) {
            for (int b = a + 1; b < ways.size(); b++) {
                if (ways.get(a).up == ways.get(b).up) continue;
                boolean common = false;
                for (int m = ways.get(a).start; m < ways.get(a).end; m++) {
                    if (m >= ways.get(b).start && m < ways.get(b).end) common = true;
                }
                if (common) many++;
            }
        }
        return many;
    }

    public int term(int seed, int days, int lesson, int what) {
        needLesson(lesson);
        needWhat(what, 2);
        need(days >= 0 && days <= 60);
        int[] all = new int[3];
        int[] state = {seed};
        IntSupplier draw = () -> {
            state[0] = (int) (state[0] * 1103515245L + 12345L);
            return Integer.remainderUnsigned(state[0] << 1 >>> 17, 10);
        };
        for (int d = 0; d < days; d++) {
            House h = house.copy();
            for (Lesson l : h.lessons) l.runs = l.maybe == 10 || draw.getAsInt() < l.maybe;
            Result r = run(h);
            all[0] += r.lost;
            all[1] = Math.max(all[1], r.lost);
            if (r.late[lesson] > 0) all[2]++;
        }
        return all[what];
    }

    private static int onStair(Result r, int minute) {
        return r.ways.stream().filter(w -> w.start <= minute && minute < w.end).mapToInt(Way::people).sum();
    }

    public int on(int minute, int what) {
        needWhat(what, 1);
        need(minute >= 0 && minute <= 4000);
        Result r = now();
        if (what == 1) return onStair(r, minute);
        int bits = 0;
        for (int i = 0; i < r.end.length; i++) {
            if (r.begin[i] <= minute && minute < r.end[i]) bits |= 1 << i;
        }
        return bits;
    }

    public int clash(int what) {
        needWhat(what, 1);
        Result r = now();
        int many = 0;
        int first = NONE;
        for (int a = 0; a < r.end.length; a++) {
            for (int b = a + 1; b < r.end.length; b++) {
                if (house.lessons.get(a).room != house.lessons.get(b).room) continue;
                int common = NONE;
                for (int m = 4000; m >= 0; m--) {
                    if (r.begin[a] <= m && m < r.end[a] && r.begin[b] <= m && m < r.end[b]) common = m;
                }
                if (common == NONE) continue;
                many++;
                if (first == NONE || common < first) first = common;
            }
        }
        return what == 0 ? many : first;
    }

    public int busiest(int what) {
        needWhat(what, 1);
        Result r = now();
        int most = 0;
        int minute = NONE;
        for (int m = 0; m <= 4000; m++) {
            int people = onStair(r, m);
            if (people > most) {
                most = people;
                minute = m;
            }
        }
        return what == 0 ? most : minute;
    }

    public int idle() {
        return now().idle;
    }

    public int shift(int lesson, int what) {
        needLesson(lesson);
        needWhat(what, 1);
        List<int[]> all = new ArrayList<>();
        for (int s = -20; s <= 20; s++) {
            House h = house.copy();
            Lesson l = h.lessons.get(lesson);
            l.from += s;
            l.to += s;
            if (l.from >= 0 && l.to <= 999) all.add(new int[] {s, run(h).lost});
        }
        return told(least(all), what);
    }

    public int harm(int lesson, int other) {
        needLesson(lesson);
        needLesson(other);
        House h = house.copy();
        h.lessons.get(lesson).over = 0;
        return now().late[other] - run(h).late[other];
    }

    public int pair(int what) {
        needWhat(what, 1);
        List<int[]> all = new ArrayList<>();
        for (int a = 0; a < house.lessons.size(); a++) {
            for (int b = a + 1; b < house.lessons.size(); b++) {
                House h = house.copy();
                h.lessons.get(a).over = 0;
                h.lessons.get(b).over = 0;
                all.add(new int[] {100 * a + b, run(h).lost});
            }
        }
        return told(least(all), what);
    }

    public int pause(int minutes, int what) {
        needWhat(what, 1);
        need(minutes >= 1 && minutes <= 30);
        List<int[]> all = new ArrayList<>();
        for (int m = 0; m <= 999; m++) {
            final int minute = m;
            if (house.lessons.stream().noneMatch(l -> l.from == minute)) continue;
            House h = house.copy();
            for (Lesson l : h.lessons) {
                if (l.from >= m) l.gap += minutes;
            }
            all.add(new int[] {m, run(h).lost});
        }
        return told(least(all), what);
    }

    public void image() {
        keptHouse = house.copy();
        keptActs = new ArrayList<>(acts);
        keptSeen = new ArrayList<>(seen);
    }

    public boolean restore() {
        if (keptHouse == null) return false;
        house = keptHouse.copy();
        acts = new ArrayList<>(keptActs);
        seen = new ArrayList<>(keptSeen);
        return true;
    }
}
