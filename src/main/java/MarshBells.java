import java.util.NoSuchElementException;

/** Lessons by a plan that run over and wait for one another: what ../shared/DOC.md promises. */
public final class MarshBells {
    public static final int NONE = -1;

    private static final int MOST_LESSONS = 12;
    private static final int MOST_WAITED = 6;
    private static final int MOST_RULES = 4;
    private static final int MOST_BYTES = 700;
    private static final int MOST_ACTS = 40;
    private static final int MOST_SEEN = 8;
    private static final int MOST_UNSURE = 8;
    private static final int MOST_WAYS = MOST_LESSONS * MOST_WAITED;

    private static final int LAST_MINUTE = 999;
    private static final int MOST_OVER = 60;
    private static final int MOST_OVER_FAR = 180;
    private static final int MOST_MORE = 120;
    private static final int MOST_GAP = 30;
    private static final int MOST_ROOM = 9;
    private static final int MOST_LIMIT = 99;
    private static final int SURE = 10;
    private static final int FIRST_ROOM_UPSTAIRS = 5;

    private static final int ALL = 0;
    private static final int SOME = 1;
    private static final int NOBODY = 2;

    private static final int OVER = 0;
    private static final int GAP = 1;
    private static final int ROOM = 2;
    private static final int LIMIT = 3;
    private static final int RULE = 4;

    private static final int REFUSED_TEXTS = 0;
    private static final int REFUSED_ACTS = 1;
    private static final int REFUSED_SEEN = 2;

    private final int[] tape = new int[MOST_BYTES];
    private final int[] refused = new int[3];
    private final int[] keptGaps = new int[MOST_LESSONS];
    private Plan plan = new Plan();
    private Plan spare = new Plan();
    private final Parser parser = new Parser(tape, spare);
    private final Held held = new Held();
    private final Held kept = new Held();
    private final Day today = new Day(plan, held);
    private final Trials trials = new Trials(today);
    private final GapSearch search = new GapSearch(today);
    private final Chances chances = new Chances(today);
    private final Stair stairs = new Stair(today);
    private int taped = 0;
    private int faultPlace = NONE;
    private boolean hasImage = false;
    private boolean hasGaps = false;

    public MarshBells() {
    }

    public int feed(int a, int b, int c, int d, int e) {
        if (taped + 20 > MOST_BYTES) {
            return NONE;
        }
        put(a);
        put(b);
        put(c);
        put(d);
        put(e);
        return taped;
    }

    public int house(int n) throws IllegalArgumentException {
        if (n < 0 || n > taped) {
            throw new IllegalArgumentException();
        }
        taped = 0;
        parser.read(n, spare);
        faultPlace = parser.faultPlace;
        if (parser.fault != 0) {
            refused[REFUSED_TEXTS]++;
            return parser.fault;
        }
        Plan told = spare;
        spare = plan;
        plan = told;
        today.plan = told;
        held.start(told);
        hasImage = false;
        hasGaps = false;
        return 0;
    }

    public int fault() {
        return faultPlace;
    }

    public int count(int what) throws NoSuchElementException {
        needWhat(what, 15);
        switch (what) {
            case 0: return plan.lessonCount;
            case 1: return plan.rules.size;
            case 2: return held.rule;
            case 3: return plan.walk;
            case 4: return plan.stair;
            case 5: return held.acts;
            case 6: return held.seen;
            case 8: return taped;
            case 9: return refused[REFUSED_TEXTS];
            case 10: return refused[REFUSED_ACTS];
            case 11: return refused[REFUSED_SEEN];
            default: return countOfDay(what);
        }
    }

    public int lesson(int lesson, int what) throws NoSuchElementException {
        needLesson(lesson);
        needWhat(what, 12);
        Lesson told = plan.lessons[lesson];
        switch (what) {
            case 0: return told.from;
            case 1: return told.to;
            case 2: return told.least;
            case 3: return held.overs[lesson];
            case 4: return held.rooms[lesson];
            case 5: return told.people;
            case 6: return told.sort;
            case 7: return told.some;
            case 8: return told.waitedBits;
            case 9: return held.limits[lesson];
            case 10: return told.maybe;
            default: return held.gaps[lesson];
        }
    }

    public int day(int lesson, int what) throws NoSuchElementException {
        needLesson(lesson);
        needWhat(what, 5);
        today.runFrom(0);
        switch (what) {
            case 0: return today.begins[lesson];
            case 1: return today.ends[lesson];
            case 2: return today.late(lesson);
            case 3: return today.runsOver[lesson];
            default: return today.byWhom[lesson];
        }
    }

    public int chain(int lesson, int i) throws NoSuchElementException {
        needLesson(lesson);
        if (i < 0) {
            throw new NoSuchElementException();
        }
        today.runFrom(0);
        int at = lesson;
        for (int step = 0; step < i && at != NONE && step < MOST_LESSONS; step++) {
            at = today.byWhom[at];
        }
        return at;
    }

    public int become(int lesson, int what, int v) throws NoSuchElementException {
        needLesson(lesson);
        needWhat(what, 4);
        if (v < 0 || v > mostOf(what)) {
            refused[REFUSED_ACTS]++;
            return NONE;
        }
        int was = held.value(what, lesson);
        held.keepAct(what, lesson, was);
        held.put(what, lesson, v);
        return was;
    }

    public boolean obey(int rule) {
        if (!isRuleOrNone(rule)) {
            refused[REFUSED_ACTS]++;
            return false;
        }
        held.keepAct(RULE, 0, held.rule);
        held.rule = rule;
        return true;
    }

    public int undo() {
        return held.takeBackAct();
    }

    public int far(int lesson, int minutes, int what) throws NoSuchElementException, IllegalArgumentException {
        needLesson(lesson);
        needWhat(what, 2);
        needWithin(minutes, 0, MOST_MORE);
        trials.keepEnds();
        trials.runMore(lesson, minutes);
        return what == 0 ? trials.laterBits() : trials.laterMinutes();
    }

    public int reaches(int lesson, int other) throws NoSuchElementException, IllegalArgumentException {
        needLesson(lesson);
        needLesson(other);
        if (lesson == other) {
            throw new IllegalArgumentException();
        }
        return trials.leastThatReaches(lesson, other);
    }

    public int slack(int lesson) throws NoSuchElementException {
        needLesson(lesson);
        return trials.mostThatDies(lesson);
    }

    public int gaps(int set, int lesson, int late) throws NoSuchElementException, IllegalArgumentException {
        needLesson(lesson);
        needWithin(late, 0, LAST_MINUTE);
        if ((set >>> plan.lessonCount) != 0 || Integer.bitCount(set) > 5) {
            throw new IllegalArgumentException();
        }
        int minutes = search.fewest(set, lesson, late);
        if (minutes != NONE) {
            System.arraycopy(search.found, 0, keptGaps, 0, MOST_LESSONS);
            hasGaps = true;
        }
        return minutes;
    }

    public int gap(int lesson) throws NoSuchElementException {
        needLesson(lesson);
        if (!hasGaps) {
            throw new NoSuchElementException();
        }
        return keptGaps[lesson];
    }

    public long chance(int lesson, int late, int what) throws NoSuchElementException, IllegalArgumentException {
        needLesson(lesson);
        needWhat(what, 2);
        needWithin(late, 0, LAST_MINUTE);
        chances.ofLate(lesson, late);
        return what == 0 ? chances.upper : chances.lower;
    }

    public long mean(int lesson, int what) throws NoSuchElementException {
        needLesson(lesson);
        needWhat(what, 2);
        chances.meanLate(lesson);
        return what == 0 ? chances.upper : chances.lower;
    }

    public int swap(int what) throws NoSuchElementException {
        needWhat(what, 2);
        return trials.swapped(what);
    }

    public int room(int lesson, int what) throws NoSuchElementException {
        needLesson(lesson);
        needWhat(what, 2);
        return trials.leastBy(ROOM, lesson, what);
    }

    public int limit(int lesson, int what) throws NoSuchElementException {
        needLesson(lesson);
        needWhat(what, 2);
        return trials.leastBy(LIMIT, lesson, what);
    }

    public int last() {
        return trials.withoutOne();
    }

    public int compare(int rule) throws NoSuchElementException {
        if (!isRuleOrNone(rule)) {
            throw new NoSuchElementException();
        }
        return trials.lostByRule(rule);
    }

    public int best() {
        return trials.bestRule();
    }

    public int bell(int minutes) throws IllegalArgumentException {
        needWithin(minutes, 0, MOST_OVER);
        return trials.worthOfBell(minutes);
    }

    public int see(int lesson, int late) throws NoSuchElementException {
        needLesson(lesson);
        if (late < 0 || late > LAST_MINUTE || held.seen >= MOST_SEEN) {
            refused[REFUSED_SEEN]++;
            return NONE;
        }
        held.keepSeen(lesson, late);
        return held.seen;
    }

    public void forget() {
        held.seen = 0;
    }

    public int fits(int what) throws NoSuchElementException {
        needWhat(what, 3);
        trials.findBeginners();
        switch (what) {
            case 0: return trials.fitting;
            case 1: return trials.firstFitting;
            default: return trials.surely;
        }
    }

    public int streams() {
        stairs.gather();
        return stairs.crossings();
    }

    public int term(int seed, int days, int lesson, int what) throws NoSuchElementException, IllegalArgumentException {
        needLesson(lesson);
        needWhat(what, 3);
        needWithin(days, 0, 60);
        return chances.ofTerm(seed, days, lesson, what);
    }

    public int on(int minute, int what) throws NoSuchElementException, IllegalArgumentException {
        needWhat(what, 2);
        needWithin(minute, 0, 4000);
        stairs.gather();
        return what == 0 ? today.onBits(minute) : stairs.peopleIn(minute);
    }

    public int clash(int what) throws NoSuchElementException {
        needWhat(what, 2);
        today.runFrom(0);
        return what == 0 ? today.clashes() : today.firstClash();
    }

    public int busiest(int what) throws NoSuchElementException {
        needWhat(what, 2);
        stairs.gather();
        int minute = stairs.busiestMinute();
        if (what == 1) {
            return minute;
        }
        return minute == NONE ? 0 : stairs.peopleIn(minute);
    }

    public int idle() {
        today.runFrom(0);
        return today.idleMinutes();
    }

    public int shift(int lesson, int what) throws NoSuchElementException {
        needLesson(lesson);
        needWhat(what, 2);
        return trials.leastByShift(lesson, what);
    }

    public int harm(int lesson, int other) throws NoSuchElementException {
        needLesson(lesson);
        needLesson(other);
        return trials.harmDone(lesson, other);
    }

    public int pair(int what) throws NoSuchElementException {
        needWhat(what, 2);
        return trials.withoutTwo(what);
    }

    public int pause(int minutes, int what) throws NoSuchElementException, IllegalArgumentException {
        needWhat(what, 2);
        needWithin(minutes, 1, 30);
        return trials.leastByPause(minutes, what);
    }

    public void image() {
        kept.copy(held);
        hasImage = true;
    }

    public boolean restore() {
        if (!hasImage) {
            return false;
        }
        held.copy(kept);
        return true;
    }

    private int countOfDay(int what) {
        today.runFrom(0);
        switch (what) {
            case 7: return today.lost();
            case 12: return today.lateOnes();
            case 13: return today.latest();
            default: return today.begunLater();
        }
    }

    private void put(int number) {
        for (int bit = 24; bit >= 0; bit -= 8) {
            if (taped < tape.length) {
                tape[taped] = (number >>> bit) & 255;
                taped++;
            }
        }
    }

    private void needLesson(int lesson) {
        if (lesson < 0 || lesson >= plan.lessonCount) {
            throw new NoSuchElementException();
        }
    }

    private static void needWhat(int what, int end) {
        if (what < 0 || what >= end) {
            throw new NoSuchElementException();
        }
    }

    private static void needWithin(int number, int least, int most) {
        if (number < least || number > most) {
            throw new IllegalArgumentException();
        }
    }

    private boolean isRuleOrNone(int rule) {
        return rule >= NONE && rule < plan.rules.size;
    }

    private static int mostOf(int what) {
        switch (what) {
            case OVER: return MOST_OVER;
            case GAP: return MOST_GAP;
            case ROOM: return MOST_ROOM;
            default: return MOST_LIMIT;
        }
    }

    /** What the text tells of one lesson; what acts may change of it lives in Held. */
    private static final class Lesson {
        private final int[] waitedFor = new int[MOST_WAITED];
        private int waited;
        private int waitedBits;
        private int from;
        private int to;
        private int least;
        private int over;
        private int room;
        private int people;
        private int sort;
        private int some;
        private int limit;
        private int maybe;
        private int gap;

        private void clear() {
            sort = NOBODY;
            some = 0;
            waited = 0;
            waitedBits = 0;
        }

        private void waitFor(int other) {
            if (waited < MOST_WAITED) {
                waitedFor[waited] = other;
                waited++;
                waitedBits |= 1 << other;
            }
        }
    }

    /** A house as its text tells it. */
    private static final class Plan {
        private final Lesson[] lessons = new Lesson[MOST_LESSONS];
        private final Rules rules = new Rules();
        private int lessonCount;
        private int walk;
        private int stair;

        private Plan() {
            for (int i = 0; i < MOST_LESSONS; i++) {
                lessons[i] = new Lesson();
            }
            walk = 1;
            stair = 99;
        }

        private void clear() {
            rules.clear();
            lessonCount = 0;
            walk = 1;
            stair = 99;
        }
    }

    /** Rules as rows of steps, operands ahead of what joins them, so that a value needs no recursion. */
    private static final class Rules {
        // A step that is not below 0 is a number; VALUES are FIRST_VALUE downward in the document's order.
        private static final int FIRST_VALUE = -1;
        private static final int LAST_VALUE = -6;
        private static final int ADD = -7;
        private static final int SUBTRACT = -8;
        private static final int MULTIPLY = -9;
        private static final int DIVIDE = -10;
        private static final int LESS = -11;
        private static final int SAME = -12;
        private static final int AND = -13;
        private static final int OR = -14;
        private static final int NOT = -15;
        // Six EXPRs one in another, five operands waiting in each, stay well below this.
        private static final int DEEPEST = 64;

        private final int[] steps = new int[MOST_BYTES];
        private final int[] bounds = new int[MOST_RULES + 1];
        private final int[] stack = new int[DEEPEST];
        private int size;
        private int used;

        private void clear() {
            size = 0;
            used = 0;
        }

        private void add(int step) {
            if (used < steps.length) {
                steps[used] = step;
                used++;
            }
        }

        private void close() {
            if (size < MOST_RULES) {
                size++;
                bounds[size] = used;
            }
        }

        private int value(int rule, int[] values) {
            if (rule < 0 || rule >= size) {
                return 0;
            }
            int top = 0;
            for (int at = bounds[rule]; at < bounds[rule + 1]; at++) {
                int step = steps[at];
                if (step >= LAST_VALUE) {
                    if (top >= DEEPEST) {
                        return 0;
                    }
                    stack[top] = step >= 0 ? step : values[FIRST_VALUE - step];
                    top++;
                } else if (step == NOT) {
                    if (top < 1) {
                        return 0;
                    }
                    stack[top - 1] = stack[top - 1] == 0 ? 1 : 0;
                } else {
                    if (top < 2) {
                        return 0;
                    }
                    top--;
                    stack[top - 1] = joined(step, stack[top - 1], stack[top]);
                }
            }
            return top == 1 ? stack[0] : 0;
        }

        private static int joined(int step, int left, int right) {
            switch (step) {
                case ADD: return left + right;
                case SUBTRACT: return left - right;
                case MULTIPLY: return left * right;
                case DIVIDE: return right == 0 ? 0 : left / right;
                case LESS: return left < right ? 1 : 0;
                case SAME: return left == right ? 1 : 0;
                case AND: return left != 0 && right != 0 ? 1 : 0;
                default: return left != 0 || right != 0 ? 1 : 0;
            }
        }
    }

    /** Reads a HOUSE off the tape; a fault stops the tokens, so that nothing behind it is taken. */
    private static final class Parser {
        private static final int END = 0;
        private static final int NUMBER = 1;
        private static final int WORD = 2;
        private static final int SIGN = 3;
        private static final int NO_TOKEN = 4;
        private static final int STOPPED = 5;
        private static final int MOST_DIGITS = 4;
        private static final int MOST_EXPRS_AROUND = 5;
        private static final int MOST_NOTS = 6;

        private final int[] bytes;
        private Plan plan;
        private int length;
        private int next;
        private int kind;
        private int place;
        private int number;
        private int fault;
        private int faultPlace;
        private boolean walkTold;
        private boolean stairTold;

        private Parser(int[] tape, Plan into) {
            bytes = tape;
            plan = into;
        }

        private void read(int n, Plan into) {
            plan = into;
            plan.clear();
            length = Math.min(n, bytes.length);
            next = 0;
            fault = 0;
            faultPlace = NONE;
            walkTold = false;
            stairTold = false;
            kind = END;
            advance();
            for (int lines = 0; lines <= MOST_BYTES && kind != END && kind != STOPPED; lines++) {
                readLine();
            }
        }

        private void refuse(int code) {
            if (kind != STOPPED) {
                fault = code;
                faultPlace = place;
                kind = STOPPED;
            }
        }

        private void advance() {
            if (kind == STOPPED) {
                return;
            }
            while (next < length && (bytes[next] == ' ' || bytes[next] == '\n')) {
                next++;
            }
            place = next;
            number = 0;
            if (next >= length) {
                kind = END;
                return;
            }
            kind = kindOf(bytes[next]);
            if (kind == SIGN || kind == NO_TOKEN) {
                next++;
                return;
            }
            while (next < length && kindOf(bytes[next]) == kind) {
                // Digits beyond the fourth make a fault whatever they are.
                if (kind == NUMBER && next - place < MOST_DIGITS) {
                    number = number * 10 + bytes[next] - '0';
                }
                next++;
            }
        }

        private static int kindOf(int sign) {
            if (sign >= 'a' && sign <= 'z') {
                return WORD;
            }
            if (sign >= '0' && sign <= '9') {
                return NUMBER;
            }
            switch (sign) {
                case ';':
                case '(':
                case ')':
                case '+':
                case '-':
                case '*':
                case '/':
                case '<':
                case '=':
                    return SIGN;
                default:
                    return NO_TOKEN;
            }
        }

        private boolean isWord(String word) {
            if (kind != WORD || next - place != word.length()) {
                return false;
            }
            for (int i = 0; i < word.length(); i++) {
                if (bytes[place + i] != word.charAt(i)) {
                    return false;
                }
            }
            return true;
        }

        private boolean isSignNow(char sign) {
            return kind == SIGN && bytes[place] == sign;
        }

        private boolean isTooLong() {
            return next - place > MOST_DIGITS;
        }

        private int readNumber(int least, int most) {
            if (kind != NUMBER) {
                refuse(1);
                return 0;
            }
            if (isTooLong() || number < least || number > most) {
                refuse(2);
                return 0;
            }
            int read = number;
            advance();
            return read;
        }

        private void readSign(char sign) {
            if (isSignNow(sign)) {
                advance();
            } else {
                refuse(1);
            }
        }

        private void readLine() {
            if (isWord("lesson")) {
                readLesson();
            } else if (isWord("walk")) {
                readWalk();
            } else if (isWord("stair")) {
                readStair();
            } else if (isWord("rule")) {
                readRule();
            } else {
                refuse(1);
            }
            readSign(';');
        }

        private void readWalk() {
            if (walkTold) {
                refuse(5);
            }
            walkTold = true;
            advance();
            plan.walk = readNumber(0, 9);
        }

        private void readStair() {
            if (stairTold) {
                refuse(5);
            }
            stairTold = true;
            advance();
            plan.stair = readNumber(1, 99);
        }

        private void readRule() {
            if (plan.rules.size >= MOST_RULES) {
                refuse(2);
            }
            advance();
            readExpr(0);
            plan.rules.close();
        }

        private void readLesson() {
            if (plan.lessonCount >= MOST_LESSONS) {
                refuse(2);
                return;
            }
            Lesson lesson = plan.lessons[plan.lessonCount];
            lesson.clear();
            advance();
            lesson.from = readNumber(0, LAST_MINUTE);
            lesson.to = readNumber(lesson.from + 1, LAST_MINUTE);
            lesson.least = readNumber(1, 200);
            lesson.over = readNumber(0, MOST_OVER);
            lesson.room = readNumber(0, MOST_ROOM);
            lesson.people = readNumber(1, 99);
            if (isWord("all")) {
                advance();
                lesson.sort = ALL;
                readWaited(lesson);
            } else if (isWord("some")) {
                advance();
                lesson.sort = SOME;
                lesson.some = readNumber(1, MOST_WAITED);
                readWaited(lesson);
            }
            lesson.limit = readOption("limit", MOST_LIMIT, MOST_LIMIT);
            lesson.maybe = readOption("maybe", SURE, SURE);
            lesson.gap = readOption("gap", MOST_GAP, 0);
            plan.lessonCount++;
        }

        private int readOption(String name, int most, int without) {
            if (!isWord(name)) {
                return without;
            }
            advance();
            return readNumber(0, most);
        }

        private void readWaited(Lesson lesson) {
            for (int told = 0; told <= MOST_WAITED && kind == NUMBER; told++) {
                if (isTooLong() || lesson.waited >= MOST_WAITED) {
                    refuse(2);
                } else if (number >= plan.lessonCount) {
                    refuse(3);
                } else if ((lesson.waitedBits >> number & 1) != 0) {
                    refuse(4);
                } else {
                    lesson.waitFor(number);
                    advance();
                }
            }
            // Ahead of fault 1, which this token may have too.
            if (lesson.waited < lesson.some) {
                refuse(6);
            }
            if (lesson.waited == 0) {
                refuse(1);
            }
        }

        private void readExpr(int around) {
            if (around > MOST_EXPRS_AROUND && (kind == NUMBER || kind == WORD || isSignNow('('))) {
                refuse(2);
            }
            readAnd(around);
            for (int more = 0; more < MOST_BYTES && isWord("or"); more++) {
                advance();
                readAnd(around);
                plan.rules.add(Rules.OR);
            }
        }

        private void readAnd(int around) {
            readNot(around);
            for (int more = 0; more < MOST_BYTES && isWord("and"); more++) {
                advance();
                readNot(around);
                plan.rules.add(Rules.AND);
            }
        }

        private void readNot(int around) {
            int nots = 0;
            while (nots < MOST_NOTS && isWord("not")) {
                nots++;
                advance();
            }
            if (isWord("not") && nots >= MOST_NOTS) {
                refuse(2);
            }
            readTest(around);
            for (int i = 0; i < nots; i++) {
                plan.rules.add(Rules.NOT);
            }
        }

        private void readTest(int around) {
            readSum(around);
            if (isSignNow('<')) {
                advance();
                readSum(around);
                plan.rules.add(Rules.LESS);
            } else if (isSignNow('=')) {
                advance();
                readSum(around);
                plan.rules.add(Rules.SAME);
            }
        }

        private void readSum(int around) {
            readProduct(around);
            for (int more = 0; more < MOST_BYTES && (isSignNow('+') || isSignNow('-')); more++) {
                int step = isSignNow('+') ? Rules.ADD : Rules.SUBTRACT;
                advance();
                readProduct(around);
                plan.rules.add(step);
            }
        }

        private void readProduct(int around) {
            readPart(around);
            for (int more = 0; more < MOST_BYTES && (isSignNow('*') || isSignNow('/')); more++) {
                int step = isSignNow('*') ? Rules.MULTIPLY : Rules.DIVIDE;
                advance();
                readPart(around);
                plan.rules.add(step);
            }
        }

        private void readPart(int around) {
            if (kind == NUMBER) {
                plan.rules.add(readNumber(0, 9999));
            } else if (kind == WORD) {
                int value = valueNow();
                if (value == NONE) {
                    refuse(3);
                }
                plan.rules.add(Rules.FIRST_VALUE - value);
                advance();
            } else if (isSignNow('(') && around <= MOST_EXPRS_AROUND) {
                advance();
                readExpr(around + 1);
                readSign(')');
            } else {
                refuse(1);
            }
        }

        private int valueNow() {
            if (isWord("over")) {
                return 0;
            }
            if (isWord("late")) {
                return 1;
            }
            if (isWord("clock")) {
                return 2;
            }
            if (isWord("room")) {
                return 3;
            }
            if (isWord("people")) {
                return 4;
            }
            return isWord("lesson") ? 5 : NONE;
        }
    }

    /** All that acts and sightings change: just what an image keeps. */
    private static final class Held {
        private final int[] overs = new int[MOST_LESSONS];
        private final int[] gaps = new int[MOST_LESSONS];
        private final int[] rooms = new int[MOST_LESSONS];
        private final int[] limits = new int[MOST_LESSONS];
        private final int[] actKinds = new int[MOST_ACTS];
        private final int[] actLessons = new int[MOST_ACTS];
        private final int[] actOlds = new int[MOST_ACTS];
        private final int[] seenLessons = new int[MOST_SEEN];
        private final int[] seenLates = new int[MOST_SEEN];
        private int acts = 0;
        private int seen = 0;
        private int rule = NONE;

        private void start(Plan plan) {
            for (int i = 0; i < plan.lessonCount; i++) {
                Lesson lesson = plan.lessons[i];
                overs[i] = lesson.over;
                gaps[i] = lesson.gap;
                rooms[i] = lesson.room;
                limits[i] = lesson.limit;
            }
            acts = 0;
            seen = 0;
            rule = NONE;
        }

        private void copy(Held other) {
            System.arraycopy(other.overs, 0, overs, 0, MOST_LESSONS);
            System.arraycopy(other.gaps, 0, gaps, 0, MOST_LESSONS);
            System.arraycopy(other.rooms, 0, rooms, 0, MOST_LESSONS);
            System.arraycopy(other.limits, 0, limits, 0, MOST_LESSONS);
            System.arraycopy(other.actKinds, 0, actKinds, 0, MOST_ACTS);
            System.arraycopy(other.actLessons, 0, actLessons, 0, MOST_ACTS);
            System.arraycopy(other.actOlds, 0, actOlds, 0, MOST_ACTS);
            System.arraycopy(other.seenLessons, 0, seenLessons, 0, MOST_SEEN);
            System.arraycopy(other.seenLates, 0, seenLates, 0, MOST_SEEN);
            acts = other.acts;
            seen = other.seen;
            rule = other.rule;
        }

        private int[] row(int kind) {
            switch (kind) {
                case OVER: return overs;
                case GAP: return gaps;
                case ROOM: return rooms;
                default: return limits;
            }
        }

        private int value(int kind, int lesson) {
            return row(kind)[lesson];
        }

        private void put(int kind, int lesson, int v) {
            row(kind)[lesson] = v;
        }

        private void keepAct(int kind, int lesson, int old) {
            if (acts >= MOST_ACTS) {
                dropFirstAct();
            }
            actKinds[acts] = kind;
            actLessons[acts] = lesson;
            actOlds[acts] = old;
            acts++;
        }

        private void dropFirstAct() {
            System.arraycopy(actKinds, 1, actKinds, 0, MOST_ACTS - 1);
            System.arraycopy(actLessons, 1, actLessons, 0, MOST_ACTS - 1);
            System.arraycopy(actOlds, 1, actOlds, 0, MOST_ACTS - 1);
            acts = MOST_ACTS - 1;
        }

        private int takeBackAct() {
            if (acts < 1) {
                return NONE;
            }
            acts--;
            if (actKinds[acts] == RULE) {
                rule = actOlds[acts];
            } else {
                put(actKinds[acts], actLessons[acts], actOlds[acts]);
            }
            return acts;
        }

        private void keepSeen(int lesson, int late) {
            if (seen < MOST_SEEN) {
                seenLessons[seen] = lesson;
                seenLates[seen] = late;
                seen++;
            }
        }
    }

    /** One day of the plan as it is held now. */
    private static final class Day {
        private static final int EVERYBODY = -1;

        private final Held held;
        private final int[] begins = new int[MOST_LESSONS];
        private final int[] ends = new int[MOST_LESSONS];
        private final int[] runsOver = new int[MOST_LESSONS];
        private final int[] byWhom = new int[MOST_LESSONS];
        private final int[] comings = new int[MOST_WAITED];
        private final int[] values = new int[6];
        private Plan plan;
        // Which lessons run over at all (bits), and the one that may by more than the others: trials set them.
        private int running = EVERYBODY;
        private int wide = NONE;

        private Day(Plan plan, Held held) {
            this.plan = plan;
            this.held = held;
        }

        /** Lessons ahead of the first stand as they were run before: none of them waits for a later one. */
        private void runFrom(int first) {
            for (int i = first; i < plan.lessonCount; i++) {
                runOne(i);
            }
        }

        private int lostFrom(int first) {
            for (int i = first; i < plan.lessonCount; i++) {
                runOne(i);
            }
            return lost();
        }

        private void runOne(int i) {
            Lesson lesson = plan.lessons[i];
            begin(i, lesson);
            runsOver[i] = overrun(i, lesson);
            ends[i] = Math.max(lesson.to, begins[i] + lesson.least) + runsOver[i];
        }

        private void begin(int i, Lesson lesson) {
            begins[i] = lesson.from;
            byWhom[i] = NONE;
            int due = lesson.from;
            for (int k = 0; k < lesson.waited; k++) {
                int from = lesson.waitedFor[k];
                comings[k] = ends[from] + way(from, i) - held.gaps[i];
                due = Math.max(due, comings[k]);
            }
            if (lesson.sort == SOME) {
                due = comingOf(lesson.some, lesson.waited, due);
            }
            if (due <= lesson.from) {
                return;
            }
            int latest = lesson.from + held.limits[i];
            if (due > latest) {
                begins[i] = latest;
                return;
            }
            begins[i] = due;
            byWhom[i] = firstComingAt(due, lesson);
        }

        private int way(int from, int to) {
            int walked = plan.walk * Math.abs(held.rooms[from] - held.rooms[to]);
            if (isUpstairs(from) == isUpstairs(to) || plan.stair < 1) {
                return walked;
            }
            return walked + (plan.lessons[from].people + plan.stair - 1) / plan.stair;
        }

        private boolean isUpstairs(int lesson) {
            return held.rooms[lesson] >= FIRST_ROOM_UPSTAIRS;
        }

        /** The minute by which so many have come; all have by the last. */
        private int comingOf(int many, int waited, int last) {
            int due = last;
            for (int k = 0; k < waited; k++) {
                int come = 0;
                for (int other = 0; other < waited; other++) {
                    come += comings[other] <= comings[k] ? 1 : 0;
                }
                if (come >= many && comings[k] < due) {
                    due = comings[k];
                }
            }
            return due;
        }

        private int firstComingAt(int due, Lesson lesson) {
            for (int k = 0; k < lesson.waited; k++) {
                if (comings[k] == due) {
                    return lesson.waitedFor[k];
                }
            }
            return NONE;
        }

        private int overrun(int i, Lesson lesson) {
            if ((running >> i & 1) == 0) {
                return 0;
            }
            int most = i == wide ? MOST_OVER_FAR : MOST_OVER;
            int given = held.overs[i];
            if (held.rule != NONE) {
                values[0] = held.overs[i];
                values[1] = begins[i] - lesson.from;
                values[2] = begins[i];
                values[3] = held.rooms[i];
                values[4] = lesson.people;
                values[5] = i;
                given = plan.rules.value(held.rule, values);
            }
            return Math.max(0, Math.min(most, given));
        }

        private int late(int lesson) {
            return ends[lesson] - plan.lessons[lesson].to;
        }

        private int lost() {
            int lost = 0;
            for (int i = 0; i < plan.lessonCount; i++) {
                lost += plan.lessons[i].people * late(i);
            }
            return lost;
        }

        private int lateOnes() {
            int many = 0;
            for (int i = 0; i < plan.lessonCount; i++) {
                many += late(i) > 0 ? 1 : 0;
            }
            return many;
        }

        private int latest() {
            int most = 0;
            for (int i = 0; i < plan.lessonCount; i++) {
                most = Math.max(most, late(i));
            }
            return most;
        }

        private int begunLater() {
            int many = 0;
            for (int i = 0; i < plan.lessonCount; i++) {
                many += begins[i] > plan.lessons[i].from ? 1 : 0;
            }
            return many;
        }

        private int onBits(int minute) {
            int bits = 0;
            for (int i = 0; i < plan.lessonCount; i++) {
                if (begins[i] <= minute && ends[i] > minute) {
                    bits |= 1 << i;
                }
            }
            return bits;
        }

        /** The first minute that is on both in one room. */
        private int clashOf(int a, int b) {
            int minute = Math.max(begins[a], begins[b]);
            boolean both = minute < Math.min(ends[a], ends[b]);
            return both && held.rooms[a] == held.rooms[b] ? minute : NONE;
        }

        private int clashes() {
            int many = 0;
            for (int a = 0; a < plan.lessonCount; a++) {
                for (int b = a + 1; b < plan.lessonCount; b++) {
                    many += clashOf(a, b) != NONE ? 1 : 0;
                }
            }
            return many;
        }

        private int firstClash() {
            int first = NONE;
            for (int a = 0; a < plan.lessonCount; a++) {
                for (int b = a + 1; b < plan.lessonCount; b++) {
                    int minute = clashOf(a, b);
                    if (minute != NONE && (first == NONE || minute < first)) {
                        first = minute;
                    }
                }
            }
            return first;
        }

        private int idleMinutes() {
            int idle = 0;
            for (int i = 0; i < plan.lessonCount; i++) {
                Lesson lesson = plan.lessons[i];
                for (int k = 0; k < lesson.waited; k++) {
                    int from = lesson.waitedFor[k];
                    int coming = ends[from] + way(from, i) - held.gaps[i];
                    idle += plan.lessons[from].people * Math.max(0, begins[i] - coming);
                }
            }
            return idle;
        }
    }

    /** The offer by which least is lost, the least of like ones. */
    private static final class Least {
        private boolean any;
        private int offered;
        private int lost;

        private void clear() {
            any = false;
        }

        private void offer(int candidate, int lostThen) {
            if (!any || lostThen < lost || (lostThen == lost && candidate < offered)) {
                any = true;
                offered = candidate;
                lost = lostThen;
            }
        }

        private int told(int what) {
            if (!any) {
                return NONE;
            }
            return what == 0 ? offered : lost;
        }
    }

    /** Days as they would be; each trial puts back what it changed. */
    private static final class Trials {
        private final Day day;
        private final Held held;
        private final Least least = new Least();
        private final int[] saved = new int[MOST_LESSONS];
        private int fitting;
        private int firstFitting;
        private int surely;

        private Trials(Day day) {
            this.day = day;
            held = day.held;
        }

        private int lessonCount() {
            return day.plan.lessonCount;
        }

        private void keepEnds() {
            day.runFrom(0);
            System.arraycopy(day.ends, 0, saved, 0, MOST_LESSONS);
        }

        /** Only behind keepEnds(). */
        private void runMore(int lesson, int minutes) {
            int own = held.overs[lesson];
            held.overs[lesson] = own + minutes;
            day.wide = lesson;
            day.runFrom(lesson);
            day.wide = NONE;
            held.overs[lesson] = own;
        }

        private int laterBits() {
            int bits = 0;
            for (int i = 0; i < lessonCount(); i++) {
                if (day.ends[i] > saved[i]) {
                    bits |= 1 << i;
                }
            }
            return bits;
        }

        private int laterMinutes() {
            int more = 0;
            for (int i = 0; i < lessonCount(); i++) {
                more += day.ends[i] - saved[i];
            }
            return more;
        }

        private int leastThatReaches(int lesson, int other) {
            keepEnds();
            for (int minutes = 1; minutes <= MOST_MORE; minutes++) {
                runMore(lesson, minutes);
                if (day.ends[other] > saved[other]) {
                    return minutes;
                }
            }
            return NONE;
        }

        /** A rule may make more minutes do less, so the greatest is looked for from above. */
        private int mostThatDies(int lesson) {
            keepEnds();
            for (int minutes = MOST_MORE; minutes > 0; minutes--) {
                runMore(lesson, minutes);
                if ((laterBits() & ~(1 << lesson)) == 0) {
                    return minutes;
                }
            }
            return 0;
        }

        private void exchange(int a, int b) {
            int over = held.overs[a];
            held.overs[a] = held.overs[b];
            held.overs[b] = over;
        }

        private int swapped(int what) {
            int now = day.lostFrom(0);
            least.clear();
            for (int a = 0; a < lessonCount(); a++) {
                for (int b = a + 1; b < lessonCount(); b++) {
                    exchange(a, b);
                    least.offer(100 * a + b, day.lostFrom(0));
                    exchange(a, b);
                }
            }
            return least.any && least.lost < now ? least.told(what) : NONE;
        }

        private int leastBy(int kind, int lesson, int what) {
            int own = held.value(kind, lesson);
            day.runFrom(0);
            least.clear();
            for (int v = 0; v <= mostOf(kind); v++) {
                held.put(kind, lesson, v);
                least.offer(v, day.lostFrom(lesson));
            }
            held.put(kind, lesson, own);
            return least.told(what);
        }

        private int withoutOne() {
            least.clear();
            for (int i = 0; i < lessonCount(); i++) {
                least.offer(i, lostWithout(i, i));
            }
            return least.told(0);
        }

        private int withoutTwo(int what) {
            least.clear();
            for (int a = 0; a < lessonCount(); a++) {
                for (int b = a + 1; b < lessonCount(); b++) {
                    least.offer(100 * a + b, lostWithout(a, b));
                }
            }
            return least.told(what);
        }

        private int lostWithout(int a, int b) {
            int overA = held.overs[a];
            int overB = held.overs[b];
            held.overs[a] = 0;
            held.overs[b] = 0;
            int lost = day.lostFrom(0);
            held.overs[a] = overA;
            held.overs[b] = overB;
            return lost;
        }

        private int lostByRule(int rule) {
            int own = held.rule;
            held.rule = rule;
            int lost = day.lostFrom(0);
            held.rule = own;
            return lost;
        }

        private int bestRule() {
            least.clear();
            for (int rule = NONE; rule < day.plan.rules.size; rule++) {
                least.offer(rule, lostByRule(rule));
            }
            return least.told(0);
        }

        private int worthOfBell(int minutes) {
            int now = day.lostFrom(0);
            System.arraycopy(held.overs, 0, saved, 0, MOST_LESSONS);
            for (int i = 0; i < lessonCount(); i++) {
                held.overs[i] = Math.min(saved[i], minutes);
            }
            int then = day.lostFrom(0);
            System.arraycopy(saved, 0, held.overs, 0, MOST_LESSONS);
            return now - then;
        }

        private void findBeginners() {
            fitting = 0;
            firstFitting = NONE;
            surely = NONE;
            for (int i = 0; i < lessonCount(); i++) {
                day.runFrom(0);
                int own = held.overs[i];
                for (int minutes = 0; minutes <= 30; minutes++) {
                    held.overs[i] = minutes;
                    day.runFrom(i);
                    if (isAsSeen()) {
                        addBeginner(i, minutes);
                    }
                }
                held.overs[i] = own;
            }
        }

        private boolean isAsSeen() {
            for (int k = 0; k < held.seen; k++) {
                if (day.late(held.seenLessons[k]) != held.seenLates[k]) {
                    return false;
                }
            }
            return true;
        }

        private void addBeginner(int lesson, int minutes) {
            if (fitting == 0) {
                firstFitting = 100 * lesson + minutes;
                surely = lesson;
            } else if (surely != lesson) {
                surely = NONE;
            }
            fitting++;
        }

        private int leastByShift(int lesson, int what) {
            Lesson told = day.plan.lessons[lesson];
            int from = told.from;
            int to = told.to;
            day.runFrom(0);
            least.clear();
            for (int later = -20; later <= 20; later++) {
                if (from + later >= 0 && to + later <= LAST_MINUTE) {
                    told.from = from + later;
                    told.to = to + later;
                    least.offer(later, day.lostFrom(lesson));
                }
            }
            told.from = from;
            told.to = to;
            return least.told(what);
        }

        private int harmDone(int lesson, int other) {
            day.runFrom(0);
            int now = day.late(other);
            int own = held.overs[lesson];
            held.overs[lesson] = 0;
            day.runFrom(lesson);
            held.overs[lesson] = own;
            return now - day.late(other);
        }

        private int leastByPause(int minutes, int what) {
            least.clear();
            for (int i = 0; i < lessonCount(); i++) {
                int minute = day.plan.lessons[i].from;
                addGapFrom(minute, minutes);
                least.offer(minute, day.lostFrom(0));
                addGapFrom(minute, -minutes);
            }
            return least.told(what);
        }

        private void addGapFrom(int minute, int more) {
            for (int i = 0; i < lessonCount(); i++) {
                if (day.plan.lessons[i].from >= minute) {
                    held.gaps[i] += more;
                }
            }
        }
    }

    /** Looks for the gaps by which a lesson is on time. */
    private static final class GapSearch {
        private static final int MOST_NEW_GAP = 4;
        private static final int MORE_THAN_ANY = 21;

        private final Day day;
        private final Held held;
        private final int[] own = new int[MOST_LESSONS];
        private final int[] found = new int[MOST_LESSONS];
        private int set;
        private int goal;
        private int late;
        private int asked;
        private int fewest;

        private GapSearch(Day day) {
            this.day = day;
            held = day.held;
        }

        private int fewest(int set, int lesson, int late) {
            this.set = set;
            this.late = late;
            goal = lesson;
            fewest = MORE_THAN_ANY;
            findAsked();
            System.arraycopy(held.gaps, 0, own, 0, MOST_LESSONS);
            for (int i = 0; i < MOST_LESSONS; i++) {
                held.gaps[i] = isIn(set, i) ? 0 : own[i];
            }
            tryFrom(0, 0);
            System.arraycopy(own, 0, held.gaps, 0, MOST_LESSONS);
            return fewest == MORE_THAN_ANY ? NONE : fewest;
        }

        /** Only these can make the goal late: of all others a gap of 0 is the best. */
        private void findAsked() {
            asked = 1 << goal;
            for (int i = goal; i >= 0; i--) {
                if (isIn(asked, i)) {
                    asked |= day.plan.lessons[i].waitedBits;
                }
            }
        }

        private static boolean isIn(int bits, int lesson) {
            return (bits >> lesson & 1) != 0;
        }

        /** Rows come in their order, so one of like minutes that is found later is not taken. */
        private void tryFrom(int lesson, int minutes) {
            if (minutes >= fewest) {
                return;
            }
            if (lesson > goal || lesson >= MOST_LESSONS) {
                takeIfOnTime(minutes);
            } else if (!isIn(asked, lesson)) {
                tryFrom(lesson + 1, minutes);
            } else if (!isIn(set, lesson)) {
                day.runOne(lesson);
                tryFrom(lesson + 1, minutes);
            } else {
                tryGapsOf(lesson, minutes);
            }
        }

        private void tryGapsOf(int lesson, int minutes) {
            int tried = NONE;
            for (int gap = 0; gap <= MOST_NEW_GAP; gap++) {
                held.gaps[lesson] = gap;
                day.runOne(lesson);
                // The same end leads to the same answers, for fewer minutes.
                if (day.ends[lesson] != tried) {
                    tried = day.ends[lesson];
                    tryFrom(lesson + 1, minutes + gap);
                }
            }
        }

        private void takeIfOnTime(int minutes) {
            if (day.late(goal) <= late) {
                fewest = minutes;
                System.arraycopy(held.gaps, 0, found, 0, MOST_LESSONS);
            }
        }
    }

    /** Days on which some lessons don't run over: all of them by their chances, or some by a seed. */
    private static final class Chances {
        private final Day day;
        private final int[] unsure = new int[MOST_UNSURE];
        private int many;
        private int never;
        private int seed;
        private long upper;
        private long lower;

        private Chances(Day day) {
            this.day = day;
        }

        private void ofLate(int lesson, int late) {
            findUnsure(lesson);
            upper = 0;
            for (int ran = 0; ran < 1 << many; ran++) {
                runWith(ran, lesson);
                if (day.late(lesson) > late) {
                    upper += weight(ran);
                }
            }
            reduce();
        }

        private void meanLate(int lesson) {
            findUnsure(lesson);
            upper = 0;
            for (int ran = 0; ran < 1 << many; ran++) {
                runWith(ran, lesson);
                upper += weight(ran) * day.late(lesson);
            }
            reduce();
        }

        /** Those behind the lesson are left out: none of them makes it late. */
        private void findUnsure(int lesson) {
            many = 0;
            never = 0;
            lower = 1;
            for (int i = 0; i <= lesson; i++) {
                int maybe = day.plan.lessons[i].maybe;
                if (maybe == 0) {
                    never |= 1 << i;
                } else if (maybe < SURE && many < MOST_UNSURE) {
                    unsure[many] = i;
                    many++;
                    lower *= SURE;
                }
            }
        }

        private void runWith(int ran, int lesson) {
            int running = ~never;
            for (int k = 0; k < many; k++) {
                if ((ran >> k & 1) == 0) {
                    running &= ~(1 << unsure[k]);
                }
            }
            day.running = running;
            for (int i = 0; i <= lesson; i++) {
                day.runOne(i);
            }
            day.running = Day.EVERYBODY;
        }

        private long weight(int ran) {
            long weight = 1;
            for (int k = 0; k < many; k++) {
                int maybe = day.plan.lessons[unsure[k]].maybe;
                weight *= (ran >> k & 1) != 0 ? maybe : SURE - maybe;
            }
            return weight;
        }

        private void reduce() {
            long a = lower;
            long b = upper;
            for (int step = 0; step < 200 && b != 0; step++) {
                long rest = a % b;
                a = b;
                b = rest;
            }
            if (a > 1) {
                upper /= a;
                lower /= a;
            }
        }

        private int ofTerm(int firstSeed, int days, int lesson, int what) {
            seed = firstSeed;
            int together = 0;
            int most = 0;
            int lateDays = 0;
            for (int n = 0; n < days; n++) {
                day.running = drawRunning();
                int lost = day.lostFrom(0);
                together += lost;
                most = Math.max(most, lost);
                lateDays += day.late(lesson) > 0 ? 1 : 0;
            }
            day.running = Day.EVERYBODY;
            if (what == 0) {
                return together;
            }
            return what == 1 ? most : lateDays;
        }

        private int drawRunning() {
            int running = 0;
            for (int i = 0; i < day.plan.lessonCount; i++) {
                int maybe = day.plan.lessons[i].maybe;
                if (maybe == SURE || drawOfTen() < maybe) {
                    running |= 1 << i;
                }
            }
            return running;
        }

        private int drawOfTen() {
            seed = seed * 1103515245 + 12345;
            return (seed >>> 16 & 32767) % 10;
        }
    }

    /** The ways that lead over the stair. */
    private static final class Stair {
        private final Day day;
        private final int[] starts = new int[MOST_WAYS];
        private final int[] ends = new int[MOST_WAYS];
        private final int[] people = new int[MOST_WAYS];
        private final boolean[] up = new boolean[MOST_WAYS];
        private int ways;

        private Stair(Day day) {
            this.day = day;
        }

        private void gather() {
            day.runFrom(0);
            ways = 0;
            for (int i = 0; i < day.plan.lessonCount; i++) {
                Lesson lesson = day.plan.lessons[i];
                for (int k = 0; k < lesson.waited; k++) {
                    int from = lesson.waitedFor[k];
                    if (day.isUpstairs(from) != day.isUpstairs(i)) {
                        addWay(from, i);
                    }
                }
            }
        }

        private void addWay(int from, int to) {
            if (ways < MOST_WAYS) {
                starts[ways] = day.ends[from];
                ends[ways] = day.ends[from] + day.way(from, to);
                people[ways] = day.plan.lessons[from].people;
                up[ways] = day.isUpstairs(to);
                ways++;
            }
        }

        private int crossings() {
            int many = 0;
            for (int a = 0; a < ways; a++) {
                for (int b = a + 1; b < ways; b++) {
                    boolean meet = Math.max(starts[a], starts[b]) < Math.min(ends[a], ends[b]);
                    many += meet && up[a] != up[b] ? 1 : 0;
                }
            }
            return many;
        }

        private int peopleIn(int minute) {
            int many = 0;
            for (int w = 0; w < ways; w++) {
                many += starts[w] <= minute && minute < ends[w] ? people[w] : 0;
            }
            return many;
        }

        /** People only become more where a way starts, so no other minute is asked. */
        private int busiestMinute() {
            int minute = NONE;
            int most = 0;
            for (int w = 0; w < ways; w++) {
                int many = peopleIn(starts[w]);
                if (many > most || (many == most && starts[w] < minute)) {
                    most = many;
                    minute = starts[w];
                }
            }
            return minute;
        }
    }
}
