/** Promises 1 and 5 to 40, each with ordinary inputs, the document's edges and wrong inputs; worked out by hand. */
public final class PromisesTest {
    private static final int NONE = MarshBells.NONE;

    /** Each lesson waits for the one ahead of it: ends 14, 24, 34, each late by 4. */
    private static final String ROW = "lesson 0 10 10 4 0 1;lesson 10 20 10 0 0 2 all 0;lesson 20 30 10 0 0 3 all 1;";

    /** Six minutes between the end of the first and the second. */
    private static final String LOOSE = "lesson 0 10 10 4 0 1;lesson 20 30 10 0 0 2 all 0;";

    /** One way up from minute 10 on, one down from 12 on, three minutes each. */
    private static final String STAIR = "walk 0;stair 1;lesson 0 10 1 0 0 3;lesson 0 12 1 0 9 3;"
        + "lesson 20 30 1 0 9 1 all 0;lesson 20 30 1 0 0 1 all 1;";

    public static void main(String[] args) {
        newObject();
        counts();
        lessons();
        days();
        waits();
        chains();
        becoming();
        obeying();
        undoing();
        fars();
        reaching();
        slacks();
        gapsOnTime();
        chancesOf();
        means();
        swaps();
        rooms();
        limits();
        lasts();
        rules();
        bells();
        seeing();
        fitting();
        streaming();
        terms();
        ons();
        clashes();
        busy();
        idles();
        shifts();
        harms();
        pairs();
        pauses();
        images();
        wrongLessons();
        Check.end();
    }

    private static void newObject() {
        MarshBells b = new MarshBells();
        int[] want = {0, 0, NONE, 1, 99, 0, 0, 0, 0, 0, 0, 0, 0, 0, 0};
        for (int what = 0; what < want.length; what++) {
            Check.same("new: count " + what, b.count(what), want[what]);
        }
        Check.same("new: fault", b.fault(), NONE);
        Check.same("new: undo", b.undo(), NONE);
        Check.same("new: last", b.last(), NONE);
        Check.same("new: best", b.best(), NONE);
        Check.same("new: compare", b.compare(NONE), 0);
        Check.same("new: restore", b.restore(), false);
        Check.same("new: pair", b.pair(1), NONE);
        Check.same("new: pause", b.pause(1, 1), NONE);
        Check.same("new: swap", b.swap(1), NONE);
        Check.same("new: on", b.on(0, 0), 0);
        Check.same("new: fits 0", b.fits(0), 0);
        Check.same("new: fits 1", b.fits(1), NONE);
        Check.same("new: fits 2", b.fits(2), NONE);
        Check.missing("new: lesson", () -> b.lesson(0, 0));
        Check.missing("new: term", () -> b.term(1, 1, 0, 0));
        Check.same("new: obey none", b.obey(NONE), true);
    }

    private static void counts() {
        MarshBells b = Check.told(Check.THREE + "rule 1;rule 2;");
        Check.same("LESSONS", b.count(0), 3);
        Check.same("RULES", b.count(1), 2);
        Check.same("STAIR", b.count(4), 10);
        Check.same("LOST", b.count(7), 20 * 9 + 10 * 7 + 8 * 5);
        b.become(2, 0, 0);
        Check.same("LATE ones", b.count(12), 2);
        Check.same("the latest", b.count(13), 9);
        Check.same("later than FROM", b.count(14), 2);
        b.become(0, 0, 0);
        Check.same("LATE ones: 0 is none", b.count(12), 0);
        Check.same("the latest: 0 without", b.count(13), 0);
        Check.same("later than FROM, if not LATE", b.count(14), 1);
        b.become(0, 0, 1);
        Check.same("LATE by 1", b.count(12), 1);
        Check.same("the latest by 1", b.count(13), 1);
        b.feed(0, 0, 0, 0, 0);
        Check.same("bytes", b.count(8), 20);
        Check.missing("count(15)", () -> b.count(15));
        Check.missing("count(-1)", () -> b.count(-1));
    }

    private static void lessons() {
        MarshBells b = Check.told("lesson 1 2 3 4 5 6;lesson 7 8 9 10 1 12;"
            + "lesson 13 14 15 16 7 18 all 1 limit 19 maybe 2 gap 21;lesson 3 9 2 0 0 1 some 2 2 0 1;");
        int[][] want = {{1, 2, 3, 4, 5, 6, 2, 0, 0, 99, 10, 0}, {7, 8, 9, 10, 1, 12, 2, 0, 0, 99, 10, 0},
            {13, 14, 15, 16, 7, 18, 0, 0, 2, 19, 2, 21}, {3, 9, 2, 0, 0, 1, 1, 2, 7, 99, 10, 0}};
        for (int i = 0; i < want.length; i++) {
            for (int what = 0; what < 12; what++) {
                Check.same("lesson " + i + ", " + what, b.lesson(i, what), want[i][what]);
            }
        }
        b.become(2, 0, 1);
        b.become(2, 1, 2);
        b.become(2, 2, 3);
        b.become(2, 3, 4);
        Check.same("OVER became", b.lesson(2, 3), 1);
        Check.same("GAP became", b.lesson(2, 11), 2);
        Check.same("ROOM became", b.lesson(2, 4), 3);
        Check.same("LIMIT became", b.lesson(2, 9), 4);
        Check.missing("lesson what 12", () -> b.lesson(0, 12));
        Check.missing("lesson what -1", () -> b.lesson(0, -1));
    }

    private static void dueDay(String text, int lesson, int begins, int end, int byWhom) {
        MarshBells b = Check.told(text);
        Check.same("begins: " + text, b.day(lesson, 0), begins);
        Check.same("ends: " + text, b.day(lesson, 1), end);
        Check.same("LATE: " + text, b.day(lesson, 2), end - b.lesson(lesson, 1));
        Check.same("OVER: " + text, b.day(lesson, 3), b.lesson(lesson, 3));
        Check.same("BY WHOM: " + text, b.day(lesson, 4), byWhom);
    }

    private static void days() {
        dueDay("lesson 5 20 15 3 0 1;", 0, 5, 23, NONE);
        dueDay("lesson 5 20 40 3 0 1;", 0, 5, 48, NONE);
        // Ways: within a floor, over the stair (cut up), by the people of the lesson that they come from.
        String from = "lesson 0 10 1 0 2 21;";
        dueDay(from + "lesson 5 30 1 0 4 1 all 0;", 1, 12, 30, 0);
        dueDay("walk 3;" + from + "lesson 5 30 1 0 0 1 all 0;", 1, 16, 30, 0);
        dueDay("walk 0;stair 10;" + from + "lesson 5 30 1 0 5 1 all 0;", 1, 13, 30, 0);
        dueDay("walk 0;stair 7;" + from + "lesson 5 30 1 0 5 1 all 0;", 1, 13, 30, 0);
        dueDay("walk 0;stair 10;" + from + "lesson 5 30 1 0 4 1 all 0;", 1, 10, 30, 0);
        dueDay("walk 2;" + from + "lesson 5 30 1 0 9 1 all 0;", 1, 10 + 14 + 1, 30, 0);
        dueDay(from + "lesson 5 30 1 0 2 1 all 0 gap 3;", 1, 7, 30, 0);
        dueDay(from + "lesson 5 30 1 0 2 1 all 0 gap 5;", 1, 5, 30, NONE);
        dueDay(from + "lesson 5 30 1 0 2 1 all 0 gap 6;", 1, 5, 30, NONE);
        // The gap of the one that they come from counts for nothing here.
        dueDay("lesson 0 10 1 0 2 21 gap 4;lesson 5 30 1 0 2 1 all 0;", 1, 10, 30, 0);
        MarshBells b = Check.told(from);
        Check.missing("day what 5", () -> b.day(0, 5));
        Check.missing("day what -1", () -> b.day(0, -1));
    }

    private static void waits() {
        String three = "walk 0;lesson 0 20 1 0 0 1;lesson 0 10 1 0 0 1;lesson 0 30 1 0 0 1;";
        dueDay(three + "lesson 5 40 1 0 0 1 all 0 1 2;", 3, 30, 40, 2);
        dueDay(three + "lesson 5 40 1 0 0 1 some 1 0 1 2;", 3, 10, 40, 1);
        dueDay(three + "lesson 5 40 1 0 0 1 some 2 0 1 2;", 3, 20, 40, 0);
        dueDay(three + "lesson 5 40 1 0 0 1 some 3 0 1 2;", 3, 30, 40, 2);
        dueDay(three + "lesson 10 40 1 0 0 1 some 1 0 1 2;", 3, 10, 40, NONE);
        dueDay(three + "lesson 5 40 1 0 0 1 all 0 1 2 limit 25;", 3, 30, 40, 2);
        dueDay(three + "lesson 5 40 1 0 0 1 all 0 1 2 limit 24;", 3, 29, 40, NONE);
        // At another one's coming, but not by it.
        dueDay(three + "lesson 5 40 1 0 0 1 all 0 1 2 limit 15;", 3, 20, 40, NONE);
        dueDay(three + "lesson 5 40 1 0 0 1 all 0 1 2 limit 0;", 3, 5, 40, NONE);
        dueDay(three + "lesson 5 40 40 0 0 1 all 0 1 2;", 3, 30, 70, 2);
        // Without a limit it is 99.
        dueDay("lesson 0 200 1 0 0 1;lesson 100 300 1 0 0 1 all 0;", 1, 199, 300, NONE);
        dueDay("lesson 0 199 1 0 0 1;lesson 100 300 1 0 0 1 all 0;", 1, 199, 300, 0);
        String like = "lesson 0 10 1 0 0 1;lesson 0 10 1 0 0 1;lesson 0 8 1 0 0 1;";
        dueDay(like + "lesson 5 40 1 0 0 1 all 2 1 0;", 3, 10, 40, 1);
        dueDay(like + "lesson 5 40 1 0 0 1 all 0 2 1;", 3, 10, 40, 0);
        dueDay(like + "lesson 5 40 1 0 0 1 some 2 1 0 2;", 3, 10, 40, 1);
    }

    private static void chains() {
        MarshBells b = Check.told(ROW);
        int[] want = {2, 1, 0, NONE, NONE};
        for (int i = 0; i < want.length; i++) {
            Check.same("chain " + i, b.chain(2, i), want[i]);
        }
        Check.same("a long way behind", b.chain(2, Integer.MAX_VALUE), NONE);
        Check.same("one alone", b.chain(0, 0), 0);
        Check.same("one alone: no more", b.chain(0, 1), NONE);
        b.become(1, 3, 2);
        Check.same("broken by LIMIT: still 1", b.chain(2, 1), 1);
        Check.same("broken by LIMIT", b.chain(2, 2), NONE);
        Check.missing("chain -1", () -> b.chain(2, -1));
    }

    private static void becoming() {
        MarshBells b = Check.told(ROW);
        int[] most = {60, 30, 9, 99};
        int[] was = {4, 0, 0, 99};
        for (int what = 0; what < 4; what++) {
            Check.same("became most", b.become(0, what, most[what]), was[what]);
            Check.same("became 0", b.become(0, what, 0), most[what]);
            Check.same("too much", b.become(0, what, most[what] + 1), NONE);
            Check.same("too little", b.become(0, what, -1), NONE);
            Check.same("it stays", b.become(0, what, was[what]), 0);
        }
        Check.same("STATUS 1", b.count(10), 8);
        Check.same("ACTS", b.count(5), 12);
        Check.same("the same again is an ACT", b.become(0, 0, 4), 4);
        Check.same("ACTS with it", b.count(5), 13);
        Check.missing("what 4", () -> b.become(0, 4, 1));
        Check.missing("what -1, ahead", () -> b.become(0, -1, 99));
        Check.missing("lesson, ahead", () -> b.become(3, 0, 99));
        Check.same("STATUS 1 by none of these", b.count(10), 8);
        b.become(0, 0, 6);
        Check.same("the day is another", b.day(2, 2), 6);
    }

    private static void obeying() {
        MarshBells b = Check.told("lesson 0 10 10 5 1 1;rule over*2;rule late=0;");
        Check.same("obey(2)", b.obey(2), false);
        Check.same("obey(-2)", b.obey(-2), false);
        Check.same("STATUS 1", b.count(10), 2);
        Check.same("no ACT", b.count(5), 0);
        Check.same("obey(1)", b.obey(1), true);
        Check.same("in force", b.count(2), 1);
        Check.same("by it", b.day(0, 3), 1);
        Check.same("obey(0)", b.obey(0), true);
        Check.same("by that", b.day(0, 3), 10);
        Check.same("obey(NONE)", b.obey(NONE), true);
        Check.same("by none", b.day(0, 3), 5);
        Check.same("ACTS", b.count(5), 3);
        // What a rule sees of one that begins late, and what it sees is what became.
        MarshBells late = Check.told("lesson 0 10 1 0 3 7;lesson 4 30 1 9 3 8 all 0;"
            + "rule late;rule clock;rule lesson*20;rule over+room+people;");
        int[] want = {6, 10, 20, 9 + 3 + 8};
        for (int rule = 0; rule < 4; rule++) {
            late.obey(rule);
            Check.same("sees " + rule, late.day(1, 3), want[rule]);
        }
        late.become(1, 0, 1);
        late.become(1, 2, 4);
        Check.same("sees what became", late.day(1, 3), 1 + 4 + 8);
    }

    private static void undoing() {
        MarshBells b = Check.told("lesson 0 10 10 5 1 1 limit 8 gap 3;rule 1;");
        b.become(0, 0, 6);
        b.become(0, 1, 7);
        b.become(0, 2, 8);
        b.become(0, 3, 9);
        b.obey(0);
        b.become(0, 0, 10);
        int[] kinds = {3, 0, 9, 4, 11, 3};
        int[] want = {6, NONE, 8, 1, 3, 5};
        for (int i = 0; i < 6; i++) {
            Check.same("left", b.undo(), 5 - i);
            Check.same("undone " + i, i == 1 ? b.count(2) : b.lesson(0, kinds[i]), want[i]);
        }
        Check.same("none", b.undo(), NONE);
        for (int v = 0; v <= 40; v++) {
            b.become(0, 0, v);
        }
        Check.same("at most 40 are kept", b.count(5), 40);
        for (int left = 39; left >= 0; left--) {
            Check.same("left of 40", b.undo(), left);
            Check.same("the latest ones", b.lesson(0, 3), left);
        }
        Check.same("the first one isn't kept", b.undo(), NONE);
        MarshBells mixed = Check.told(ROW + "rule 1;rule 2;");
        String[] then = new String[44];
        for (int n = 0; n < 43; n++) {
            then[n] = state(mixed);
            if (n % 5 == 4) {
                mixed.obey(n % 3 - 1);
            } else {
                mixed.become(n % 3, n * n % 7 % 4, n % 10);
            }
        }
        for (int left = 39; left >= 0; left--) {
            Check.same("left of 40 mixed", mixed.undo(), left);
            Check.same("as then " + left, state(mixed).equals(then[left + 3]), true);
        }
    }

    private static String state(MarshBells b) {
        StringBuilder all = new StringBuilder().append(b.count(2));
        for (int lesson = 0; lesson < b.count(0); lesson++) {
            for (int what = 3; what < 12; what++) {
                all.append(' ').append(b.lesson(lesson, what));
            }
        }
        return all.toString();
    }

    private static void fars() {
        MarshBells b = Check.told(ROW);
        Check.same("far: all", b.far(0, 3, 0), 7);
        Check.same("far: more", b.far(0, 3, 1), 9);
        Check.same("far: from the middle", b.far(1, 3, 0), 6);
        Check.same("far: 0", b.far(1, 0, 1), 0);
        MarshBells loose = Check.told(LOOSE);
        Check.same("far: dies", loose.far(0, 6, 0), 1);
        Check.same("far: comes as far", loose.far(0, 7, 0), 3);
        Check.same("far: more then", loose.far(0, 7, 1), 7 + 1);
        Check.same("far: 99 at most behind", loose.far(0, 120, 1), 120 + 99);
        Check.same("nothing stays of it", loose.count(7), 4);
        MarshBells ruled = Check.told("lesson 0 10 5 40 0 1;rule over*2;rule 100-over;rule 0-over;");
        ruled.obey(0);
        Check.same("a rule is kept to 180 for this one", ruled.far(0, 0, 1), 80 - 60);
        Check.same("that is later", ruled.far(0, 0, 0), 1);
        Check.same("it sees the more", ruled.far(0, 20, 1), 120 - 60);
        Check.same("kept to 180", ruled.far(0, 120, 1), 180 - 60);
        ruled.obey(1);
        Check.same("less by more", ruled.far(0, 50, 1), 10 - 60);
        Check.same("not later", ruled.far(0, 50, 0), 0);
        ruled.obey(2);
        Check.same("kept to 0", ruled.far(0, 50, 1), 0);
        ruled.obey(NONE);
        Check.same("60 and more", ruled.far(0, 120, 1), 120);
        Check.illegal("far 121", () -> b.far(0, 121, 0));
        Check.illegal("far -1", () -> b.far(0, -1, 0));
        Check.missing("far what 2, ahead", () -> b.far(0, -1, 2));
        Check.missing("far what -1", () -> b.far(0, 1, -1));
        Check.missing("far lesson, ahead", () -> b.far(3, -1, 0));
    }

    private static void reaching() {
        MarshBells b = Check.told(LOOSE + "lesson 31 40 9 0 0 1 all 1;");
        Check.same("reaches", b.reaches(0, 1), 7);
        Check.same("reaches over another", b.reaches(0, 2), 8);
        Check.same("reaches not back", b.reaches(1, 0), NONE);
        b.become(2, 3, 0);
        Check.same("reaches not, by LIMIT", b.reaches(0, 2), NONE);
        Check.illegal("both are one", () -> b.reaches(1, 1));
        Check.missing("reaches from none", () -> b.reaches(3, 3));
        Check.missing("reaches none", () -> b.reaches(0, 3));
        Check.missing("reaches -1", () -> b.reaches(-1, 0));
        MarshBells edge = Check.told("lesson 0 10 10 0 0 1;lesson 129 150 21 0 0 1 all 0;");
        Check.same("reaches by 120", edge.reaches(0, 1), 120);
        MarshBells beyond = Check.told("lesson 0 10 10 0 0 1;lesson 130 150 20 0 0 1 all 0;");
        Check.same("reaches by 121: none", beyond.reaches(0, 1), NONE);
    }

    private static void slacks() {
        MarshBells b = Check.told(LOOSE);
        Check.same("slack", b.slack(0), 6);
        Check.same("slack of the last", b.slack(1), 120);
        MarshBells row = Check.told(ROW);
        Check.same("slack of none", row.slack(0), 0);
        Check.same("slack of 1", Check.told("lesson 0 9 9 0 0 1;lesson 10 20 10 0 0 1 all 0;").slack(0), 1);
        MarshBells ruled = Check.told(ROW + "rule (over<50)*over;rule over*20;");
        ruled.obey(0);
        Check.same("more that does less: the greatest", ruled.slack(0), 120);
        Check.same("more that does less: the least", ruled.reaches(0, 1), 1);
        ruled.obey(1);
        Check.same("none, 0 neither", ruled.slack(0), 0);
        Check.same("0 is later here", ruled.far(0, 0, 0), 7);
    }

    private static void gapsOnTime() {
        MarshBells b = Check.told(ROW);
        Check.missing("nothing is kept", () -> b.gap(0));
        Check.same("one alone", b.gaps(4, 2, 2), 2);
        Check.same("its gap", b.gap(2), 2);
        Check.same("of like ones the first as a row", b.gaps(7, 2, 2), 2);
        Check.same("row 0", b.gap(0), 0);
        Check.same("row 1", b.gap(1), 0);
        Check.same("row 2", b.gap(2), 2);
        Check.same("together", b.gaps(6, 2, 0), 4);
        Check.same("no need", b.gaps(7, 2, 4), 0);
        Check.same("one behind it", b.gaps(4, 1, 4), 0);
        Check.same("one behind it can't help", b.gaps(4, 1, 3), NONE);
        b.become(0, 0, 9);
        Check.same("more than one can", b.gaps(4, 2, 4), NONE);
        Check.same("both", b.gaps(6, 2, 4), 5);
        Check.same("both: the first", b.gap(1), 1);
        Check.same("both: the second", b.gap(2), 4);
        Check.same("none", b.gaps(6, 2, 0), NONE);
        Check.same("what is kept stays", b.gap(1), 1);
        Check.same("GAPS themselves stay", b.lesson(1, 11), 0);
        b.become(2, 1, 7);
        Check.same("anew, not more", b.gaps(4, 2, 6), 3);
        Check.same("its own too, if it isn't in the set", b.gaps(2, 1, 7), 2);
        b.become(2, 1, 5);
        Check.same("its own then", b.gap(2), 7);
        // One that has nothing to do with it stands between, and one of the set is behind it.
        MarshBells apart = Check.told("lesson 0 10 10 4 0 1;lesson 0 10 10 4 0 1;lesson 10 20 10 0 0 2 all 1;"
            + "lesson 10 20 10 0 0 2 all 0 gap 9;lesson 20 30 10 0 0 2 all 2 gap 8;");
        Check.same("apart", apart.gaps(31, 4, 1), 3);
        int[] row = {0, 0, 0, 0, 3};
        Check.same("apart: another", apart.gaps(29, 2, 1), 3);
        int[] other = {0, 0, 3, 0, 0};
        for (int i = 0; i < 5; i++) {
            Check.same("apart: gap " + i, apart.gap(i), other[i]);
        }
        Check.same("apart again", apart.gaps(31, 4, 1), 3);
        for (int i = 0; i < 5; i++) {
            Check.same("apart again: gap " + i, apart.gap(i), row[i]);
        }
        Check.same("GAPS stay as they are", apart.lesson(4, 11), 8);
        // A rule by which a smaller gap does nothing and a greater one does.
        MarshBells odd = Check.told(ROW + "rule over+(lesson=1 and not late=2)*9;");
        odd.obey(0);
        Check.same("by a rule", odd.gaps(6, 1, 4), 2);
        Check.same("by a rule: the gap", odd.gap(1), 2);
        MarshBells six = Check.told("lesson 0 5 1 0 0 1;".repeat(6));
        Check.same("five", six.gaps(31, 0, 0), 0);
        Check.illegal("six", () -> six.gaps(63, 0, 0));
        Check.illegal("no such LESSON in it", () -> six.gaps(64, 0, 0));
        Check.illegal("a set below 0", () -> six.gaps(Integer.MIN_VALUE, 0, 0));
        Check.illegal("late -1", () -> six.gaps(1, 0, -1));
        Check.illegal("late 1000", () -> six.gaps(1, 0, 1000));
        Check.same("late 999", six.gaps(1, 0, 999), 0);
        Check.missing("no such LESSON, ahead", () -> six.gaps(64, 6, -1));
        Check.missing("gap of none", () -> six.gap(6));
        Check.missing("gap of -1", () -> six.gap(-1));
    }

    private static void chancesOf() {
        MarshBells b = Check.told("lesson 0 10 1 5 0 1 maybe 5;lesson 0 10 1 4 0 1 maybe 3;lesson 10 20 10 0 0 1 all 0 1;");
        long[][] want = {{13, 20}, {1, 2}, {0, 1}};
        for (int i = 0; i < 3; i++) {
            Check.same("chance, upper part " + i, b.chance(2, 3 + i, 0), want[i][0]);
            Check.same("chance, lower part " + i, b.chance(2, 3 + i, 1), want[i][1]);
        }
        Check.same("at least 0", b.chance(0, 0, 1), 2);
        MarshBells nine = Check.told("lesson 0 10 1 5 0 1 maybe 5;".repeat(9));
        Check.same("the eighth", nine.chance(7, 0, 1), 2);
        Check.same("the ninth: as 10", nine.chance(8, 0, 1), 1);
        Check.same("the ninth: as 10", nine.chance(8, 0, 0), 1);
        MarshBells ruled = Check.told("lesson 0 10 1 0 0 1 maybe 2;lesson 0 10 1 5 0 1 maybe 0;rule 7;");
        ruled.obey(0);
        Check.same("not at all, whatever the rule", ruled.chance(0, 6, 0), 1);
        Check.same("so many tenths", ruled.chance(0, 6, 1), 5);
        Check.same("never", ruled.chance(1, 0, 0), 0);
        Check.same("all else doesn't ask MAYBE", ruled.count(7), 14);
        MarshBells tenths = Check.told("lesson 0 10 1 1 0 1 maybe 1;lesson 0 10 1 1 0 1 maybe 9;lesson 0 10 1 1 0 1 maybe 10;");
        Check.same("1 tenth", tenths.chance(0, 0, 0), 1);
        Check.same("9 tenths", tenths.chance(1, 0, 0), 9);
        Check.same("10 tenths", tenths.chance(2, 0, 0), 1);
        Check.same("10 tenths: in lowest terms", tenths.chance(2, 0, 1), 1);
        Check.tell(tenths, "lesson 0 10 1 1 0 1 maybe 0;");
        Check.same("0 tenths", tenths.chance(0, 0, 0), 0);
        Check.tell(tenths, "lesson 0 10 1 1 0 1 maybe 2;");
        Check.same("2 tenths behind 0", tenths.chance(0, 0, 1), 5);
        Check.illegal("late -1", () -> b.chance(0, -1, 0));
        Check.illegal("late 1000", () -> b.chance(0, 1000, 0));
        Check.missing("what 2, ahead", () -> b.chance(0, -1, 2));
        Check.missing("what -1", () -> b.chance(0, 0, -1));
        Check.missing("no such LESSON, ahead", () -> b.chance(3, -1, 0));
    }

    private static void means() {
        MarshBells b = Check.told("lesson 0 10 1 5 0 1 maybe 5;lesson 0 10 1 4 0 1 maybe 3;lesson 10 20 10 0 0 1 all 0 1;"
            + "lesson 0 10 1 3 0 1 maybe 0;");
        Check.same("mean, upper part", b.mean(2, 0), 31);
        Check.same("mean, lower part", b.mean(2, 1), 10);
        Check.same("mean of 5 by a half, upper part", b.mean(0, 0), 5);
        Check.same("mean of 5 by a half, lower part", b.mean(0, 1), 2);
        Check.same("mean of none, upper part", b.mean(3, 0), 0);
        Check.same("mean of none, lower part", b.mean(3, 1), 1);
        MarshBells anyway = Check.told("lesson 0 10 13 4 0 1 maybe 5;");
        Check.same("mean of 3 and 7", anyway.mean(0, 0), 5);
        Check.same("mean of 3 and 7, lower part", anyway.mean(0, 1), 1);
        Check.same("LATE anyway", anyway.chance(0, 2, 0), 1);
        Check.missing("what 2", () -> b.mean(0, 2));
        Check.missing("what -1", () -> b.mean(0, -1));
    }

    private static void swaps() {
        MarshBells b = Check.told(Check.THREE);
        Check.same("swap", b.swap(0), 1);
        Check.same("LOST then", b.swap(1), 130);
        Check.same("nothing stays of it", b.count(7), 290);
        MarshBells like = Check.told("lesson 0 5 1 3 0 1;lesson 0 5 1 3 0 2;");
        Check.same("no less than now", like.swap(0), NONE);
        Check.same("no LOST of none", like.swap(1), NONE);
        MarshBells tie = Check.told("lesson 0 5 1 0 0 1;lesson 0 5 1 3 0 2;lesson 0 5 1 0 0 1;lesson 0 5 1 0 0 1;");
        Check.same("of like ones the first", tie.swap(0), 1);
        tie.become(0, 0, 3);
        Check.same("100 by a", tie.swap(0), 102);
        Check.missing("what 2", () -> b.swap(2));
        Check.missing("what -1", () -> b.swap(-1));
    }

    private static void rooms() {
        MarshBells b = Check.told("walk 2;lesson 0 10 10 5 0 1;lesson 10 20 10 0 3 2 all 0;");
        Check.same("LOST now", b.count(7), 5 + 2 * 11);
        Check.same("the room", b.room(1, 0), 0);
        Check.same("LOST then", b.room(1, 1), 15);
        Check.same("the room of the other", b.room(0, 0), 3);
        Check.same("LOST then", b.room(0, 1), 15);
        b.become(1, 3, 0);
        Check.same("of like ones the least", b.room(0, 0), 0);
        Check.same("nothing stays of it", b.lesson(1, 4), 3);
        Check.same("the last room", Check.told("lesson 0 10 10 5 9 1;lesson 10 20 10 0 3 2 all 0;").room(1, 0), 9);
        Check.missing("what 2", () -> b.room(0, 2));
        Check.missing("what -1", () -> b.room(0, -1));
    }

    private static void limits() {
        MarshBells b = Check.told("walk 0;lesson 0 10 10 5 0 1;lesson 10 20 1 0 3 2 all 0;"
            + "rule over*(lesson=0)+(lesson=1)*(20-late*5);");
        Check.same("how long", b.limit(1, 0), 0);
        b.obey(0);
        Check.same("as long as it does less", b.limit(1, 0), 4);
        Check.same("LOST then", b.limit(1, 1), 5);
        MarshBells longest = Check.told("walk 0;lesson 0 99 9 0 0 1;lesson 0 120 1 0 3 2 all 0;rule lesson*(99-late);");
        longest.obey(0);
        Check.same("as long as can be", longest.limit(1, 0), 99);
        Check.same("nothing stays of it", b.lesson(1, 9), 99);
        Check.missing("what 2", () -> b.limit(0, 2));
        Check.missing("what -1", () -> b.limit(0, -1));
    }

    private static void lasts() {
        Check.same("last", Check.told(Check.THREE).last(), 0);
        Check.same("last of like ones", Check.told("lesson 0 5 1 0 0 1;lesson 0 5 1 0 0 2;").last(), 0);
        Check.same("last by people", Check.told("lesson 0 5 1 9 0 1;lesson 0 5 1 5 0 2;").last(), 1);
        MarshBells again = Check.told(Check.THREE + "rule 9;");
        Check.same("one after another: pair", again.pair(0), 2);
        Check.same("one after another: last", again.last(), 0);
        Check.same("one after another: pair again", again.pair(0), 2);
        Check.same("one after another: best", again.best(), NONE);
        Check.same("one after another: pair once more", again.pair(0), 2);
        Check.same("one after another: swap", again.swap(0), 1);
        Check.same("one after another: pause", again.pause(1, 1), 280);
    }

    private static void rules() {
        MarshBells b = Check.told("lesson 0 10 10 5 1 2;rule over*2;rule late=0;rule 1;");
        b.obey(0);
        Check.same("by none", b.compare(NONE), 10);
        Check.same("by 0", b.compare(0), 20);
        Check.same("by 1", b.compare(1), 2);
        Check.same("the best, of like ones the first", b.best(), 1);
        Check.same("nothing stays of it", b.count(2), 0);
        Check.missing("compare(3)", () -> b.compare(3));
        Check.missing("compare(-2)", () -> b.compare(-2));
        Check.same("none ahead of RULES", Check.told("lesson 0 10 10 5 1 2;rule over;").best(), NONE);
    }

    private static void bells() {
        MarshBells b = Check.told(Check.THREE);
        Check.same("bell(0)", b.bell(0), 290);
        Check.same("bell(5)", b.bell(5), 120);
        Check.same("bell(60)", b.bell(60), 0);
        Check.same("nothing stays of it", b.lesson(0, 3), 9);
        Check.same("below 0", Check.ruled("60-over").bell(0), -7 * 8);
        Check.illegal("bell(61)", () -> b.bell(61));
        Check.illegal("bell(-1)", () -> b.bell(-1));
    }

    private static void seeing() {
        MarshBells b = Check.told(ROW);
        Check.same("see 0", b.see(0, 0), 1);
        Check.same("see 999", b.see(2, 999), 2);
        Check.same("see 1000", b.see(0, 1000), NONE);
        Check.same("see -1", b.see(0, -1), NONE);
        Check.missing("see, ahead", () -> b.see(3, 1000));
        Check.missing("see -1, ahead", () -> b.see(-1, -1));
        Check.same("STATUS 2", b.count(11), 2);
        for (int i = 3; i <= 8; i++) {
            Check.same("see the same", b.see(0, 0), i);
        }
        Check.same("see a ninth", b.see(0, 0), NONE);
        Check.same("STATUS 2 then", b.count(11), 3);
        Check.same("SEEN", b.count(6), 8);
        b.forget();
        Check.same("forgotten", b.count(6), 0);
        Check.same("see anew", b.see(0, 0), 1);
    }

    private static void dueFits(String name, MarshBells b, int many, int first, int surely) {
        Check.same(name + ": how many", b.fits(0), many);
        Check.same(name + ": the first", b.fits(1), first);
        Check.same(name + ": surely", b.fits(2), surely);
    }

    private static void fitting() {
        MarshBells b = Check.told(ROW);
        dueFits("nothing seen", b, 93, 0, NONE);
        b.see(2, 4);
        dueFits("as it is", b, 3, 4, NONE);
        b.see(0, 6);
        dueFits("not both", b, 0, NONE, NONE);
        b.forget();
        b.see(0, 6);
        dueFits("one alone", b, 1, 6, 0);
        b.forget();
        b.see(1, 5);
        dueFits("two", b, 2, 5, NONE);
        b.see(0, 4);
        dueFits("not the first", b, 1, 101, 1);
        b.forget();
        b.see(0, 30);
        dueFits("30 minutes", b, 1, 30, 0);
        b.forget();
        b.see(0, 31);
        dueFits("31 minutes", b, 0, NONE, NONE);
        Check.same("nothing stays of it", b.lesson(0, 3), 4);
        Check.missing("what 3", () -> b.fits(3));
        Check.missing("what -1", () -> b.fits(-1));
        dueFits("one lesson", Check.told("lesson 0 5 1 3 0 1;"), 31, 0, 0);
    }

    private static void streaming() {
        MarshBells b = Check.told(STAIR);
        Check.same("a minute in common", b.streams(), 1);
        b.become(1, 0, 1);
        Check.same("one behind the other", b.streams(), 0);
        b.become(1, 0, 0);
        b.become(3, 2, 4);
        Check.same("to another room below", b.streams(), 1);
        b.become(3, 2, 5);
        Check.same("not over the stair", b.streams(), 0);
        MarshBells both = Check.told("walk 1;stair 1;lesson 0 10 1 0 0 3;lesson 0 10 1 0 1 3;"
            + "lesson 20 30 1 0 9 1 all 0 1;lesson 20 30 1 0 8 1 all 0 1;");
        Check.same("all up", both.streams(), 0);
        MarshBells many = Check.told("walk 1;stair 1;lesson 0 10 1 0 0 3;lesson 0 10 1 0 9 3;"
            + "lesson 20 30 1 0 9 1 all 0;lesson 20 30 1 0 8 1 all 0;lesson 20 30 1 0 1 1 all 1;");
        Check.same("each couple", many.streams(), 2);
        Check.same("each couple again", many.streams(), 2);
        many.become(2, 2, 0);
        Check.same("one couple less", many.streams(), 1);
        StringBuilder full = new StringBuilder("walk 0;stair 1;");
        for (int i = 0; i < 12; i++) {
            full.append("lesson 0 10 1 0 ").append(i % 2 * 9).append(" 9").append(i == 0 ? "" : " all");
            for (int k = 1; k <= 6 && k <= i; k++) {
                full.append(' ').append(i - k);
            }
            full.append(i == 0 ? ";" : " limit 0;");
        }
        // Of the ways to lesson i every other one: 1 1 2 2 3 3 3 .. 3, 27 in all, 15 of them up.
        MarshBells most = Check.told(full.toString());
        Check.same("on the stair at once", most.on(10, 1), 27 * 9);
        Check.same("each couple of very many", most.streams(), 15 * 12);
    }

    private static void terms() {
        // Draws by the seed 1: 8 8 3 5 1 7 0 9 2 6; two a day, none for the lesson whose MAYBE is 10.
        MarshBells b = Check.told("lesson 0 10 1 5 0 2 maybe 4;lesson 0 10 1 3 0 1;lesson 0 10 1 9 0 9 maybe 0;");
        Check.same("LOST", b.term(1, 5, 0, 0), 5 * 3 + 4 * 10);
        Check.same("the most", b.term(1, 5, 0, 1), 13);
        Check.same("LATE days", b.term(1, 5, 0, 2), 4);
        Check.same("always", b.term(1, 5, 1, 2), 5);
        Check.same("never", b.term(1, 5, 2, 2), 0);
        Check.same("one day: LOST", b.term(1, 1, 0, 0), 3);
        Check.same("one day: the most", b.term(1, 1, 0, 1), 3);
        Check.same("one day: LATE", b.term(1, 1, 0, 2), 0);
        Check.same("no day", b.term(7, 0, 1, 1), 0);
        MarshBells edge = Check.told("lesson 0 10 1 1 0 2 maybe 3;lesson 0 10 1 0 0 1 maybe 5;");
        Check.same("a draw that is no less; LATE by 1", edge.term(1, 5, 0, 2), 3);
        Check.same("sixty", b.term(-5, 60, 1, 2), 60);
        Check.same("nothing stays of it", b.count(7), 10 + 3 + 81);
        Check.illegal("61 days", () -> b.term(1, 61, 0, 0));
        Check.illegal("-1 days", () -> b.term(1, -1, 0, 0));
        Check.missing("what 3, ahead", () -> b.term(1, 61, 0, 3));
        Check.missing("what -1", () -> b.term(1, 1, 0, -1));
        Check.missing("no such LESSON, ahead", () -> b.term(1, 61, 3, 0));
    }

    private static void ons() {
        MarshBells b = Check.told(STAIR);
        int[][] lessons = {{0, 3}, {9, 3}, {10, 2}, {11, 2}, {12, 0}, {19, 0}, {20, 12}, {29, 12}, {30, 0}, {4000, 0}};
        for (int[] l : lessons) {
            Check.same("on " + l[0], b.on(l[0], 0), l[1]);
        }
        int[][] people = {{9, 0}, {10, 3}, {11, 3}, {12, 6}, {13, 3}, {14, 3}, {15, 0}};
        for (int[] p : people) {
            Check.same("on the stair " + p[0], b.on(p[0], 1), p[1]);
        }
        MarshBells twice = Check.told("walk 0;lesson 0 10 1 0 0 3;lesson 20 30 1 0 9 1 all 0;lesson 20 30 1 0 8 1 all 0;");
        Check.same("as often as they have ways", twice.on(10, 1), 6);
        MarshBells later = Check.told(ROW);
        Check.same("it has not begun yet", later.on(13, 0), 1);
        Check.same("one ends, one begins", later.on(14, 0), 2);
        Check.illegal("minute 4001", () -> b.on(4001, 0));
        Check.illegal("minute -1", () -> b.on(-1, 0));
        Check.missing("what 2, ahead", () -> b.on(-1, 2));
        Check.missing("what -1", () -> b.on(0, -1));
    }

    private static void clashes() {
        MarshBells b = Check.told("lesson 10 20 5 0 3 1;lesson 19 30 5 0 3 1;lesson 30 40 5 0 3 1;lesson 9 12 1 0 4 1;"
            + "lesson 5 11 1 0 4 1;");
        Check.same("how many", b.clash(0), 2);
        Check.same("the first minute of all", b.clash(1), 9);
        b.become(3, 2, 5);
        Check.same("another room", b.clash(0), 1);
        Check.same("the first then", b.clash(1), 19);
        b.become(1, 0, 1);
        Check.same("by running over", b.clash(0), 2);
        b.become(0, 2, 0);
        Check.same("the first then", b.clash(1), 30);
        b.become(1, 0, 0);
        Check.same("how many: none", b.clash(0), 0);
        Check.same("the first: none", b.clash(1), NONE);
        Check.missing("what 2", () -> b.clash(2));
        Check.missing("what -1", () -> b.clash(-1));
    }

    private static void busy() {
        MarshBells b = Check.told(STAIR);
        Check.same("the most", b.busiest(0), 6);
        Check.same("the minute", b.busiest(1), 12);
        b.become(1, 0, 1);
        Check.same("one behind the other: the most", b.busiest(0), 3);
        Check.same("one behind the other: the first minute", b.busiest(1), 10);
        b.become(2, 2, 0);
        b.become(3, 2, 9);
        Check.same("no ways: the most", b.busiest(0), 0);
        Check.same("no ways: the minute", b.busiest(1), NONE);
        Check.missing("what 2", () -> b.busiest(2));
        Check.missing("what -1", () -> b.busiest(-1));
        // The first told ends last: the first minute is not the first told.
        MarshBells back = Check.told("walk 0;stair 9;lesson 0 20 1 0 0 3;lesson 0 10 1 0 0 3;lesson 30 40 1 0 9 1 all 0 1;");
        Check.same("the first minute of like ones", back.busiest(1), 10);
    }

    private static void idles() {
        String two = "lesson 0 10 1 0 0 3;lesson 0 15 1 0 0 5;";
        String[] lines = {"lesson 5 20 1 0 0 1 all 0 1;", "lesson 20 30 1 0 0 1 all 0 1;",
            "lesson 20 30 1 0 0 1 all 0 1 gap 2;", "lesson 5 20 1 0 0 1 all 0 1 limit 7;",
            "lesson 5 20 1 0 0 1 some 1 0 1;", "lesson 20 30 1 0 7 1 all 0;", "lesson 20 30 1 0 0 1;"};
        int[] want = {3 * 5, 3 * 10 + 5 * 5, 3 * 12 + 5 * 7, 3 * 2, 0, 3 * 2, 0};
        for (int i = 0; i < lines.length; i++) {
            Check.same("idle " + lines[i], Check.told(two + lines[i]).idle(), want[i]);
        }
    }

    private static void shifts() {
        MarshBells b = Check.told(Check.THREE);
        Check.same("shift", b.shift(1, 0), 7);
        Check.same("LOST then", b.shift(1, 1), 220);
        Check.same("nothing stays of it", b.lesson(1, 0), 50);
        Check.same("FROM 0 still", Check.told("lesson 5 10 1 3 0 1;").shift(0, 0), -5);
        Check.same("of like ones the least shift", Check.told("lesson 50 60 1 3 0 1;").shift(0, 0), -20);
        MarshBells end = Check.told("lesson 970 990 1 50 0 1;lesson 980 995 15 0 0 1 all 0;");
        Check.same("TO 999 still", end.shift(1, 0), 4);
        MarshBells most = Check.told("lesson 0 10 1 50 0 1;lesson 20 30 10 0 0 1 all 0;");
        Check.same("20 at most", most.shift(1, 0), 20);
        Check.same("20 at most: LOST", most.shift(1, 1), 50 + 20);
        Check.missing("what 2", () -> b.shift(0, 2));
        Check.missing("what -1", () -> b.shift(0, -1));
    }

    private static void harms() {
        MarshBells b = Check.told(ROW);
        Check.same("harm", b.harm(0, 2), 4);
        Check.same("harm to itself", b.harm(0, 0), 4);
        Check.same("no harm back", b.harm(2, 0), 0);
        Check.same("nothing stays of it", b.lesson(0, 3), 4);
        Check.same("below 0", Check.ruled("20-over").harm(0, 0), -7);
        Check.missing("harm from none", () -> b.harm(3, 0));
        Check.missing("harm to none", () -> b.harm(0, 3));
        Check.missing("harm to -1", () -> b.harm(0, -1));
    }

    private static void pairs() {
        MarshBells b = Check.told(Check.THREE);
        Check.same("which two", b.pair(0), 2);
        Check.same("LOST then", b.pair(1), 0);
        Check.same("nothing stays of it", b.count(7), 290);
        Check.same("of like ones the first", Check.told(ROW).pair(0), 1);
        MarshBells c = Check.told("lesson 0 5 1 1 0 1;lesson 0 5 1 2 0 1;lesson 0 5 1 3 0 1;");
        Check.same("100 by a", c.pair(0), 102);
        Check.same("100 by a: LOST", c.pair(1), 1);
        MarshBells one = Check.told("lesson 0 5 1 1 0 1;");
        Check.same("none", one.pair(0), NONE);
        Check.same("none: LOST", one.pair(1), NONE);
        Check.missing("what 2", () -> b.pair(2));
        Check.missing("what -1", () -> b.pair(-1));
    }

    private static void pauses() {
        MarshBells b = Check.told(ROW + "rule over+(lesson=1 and late=0)*20;");
        Check.same("of like ones the least", b.pause(4, 0), 0);
        Check.same("LOST then", b.pause(4, 1), 4);
        b.obey(0);
        Check.same("a later one", b.pause(4, 0), 20);
        Check.same("LOST then", b.pause(4, 1), 4 + 8);
        Check.same("nothing stays of it", b.lesson(2, 11), 0);
        MarshBells back = Check.told("lesson 30 40 1 0 0 1;lesson 10 20 1 0 0 1;");
        Check.same("the least, not the first told", back.pause(1, 0), 10);
        MarshBells more = Check.told("lesson 0 10 10 50 0 1;lesson 10 20 10 0 0 1 all 0 gap 30;");
        Check.same("15 more", more.pause(15, 1), 50 + 5);
        Check.same("30 more than 30", more.pause(30, 1), 50);
        Check.illegal("31", () -> b.pause(31, 0));
        Check.illegal("0", () -> b.pause(0, 0));
        Check.missing("what 2, ahead", () -> b.pause(0, 2));
        Check.missing("what -1", () -> b.pause(1, -1));
    }

    private static void images() {
        MarshBells b = Check.told(ROW + "rule 1;rule 2;");
        Check.same("no image", b.restore(), false);
        b.become(0, 0, 7);
        b.become(1, 1, 5);
        b.obey(1);
        b.see(0, 7);
        b.image();
        b.become(0, 0, 8);
        b.become(1, 1, 6);
        b.become(1, 2, 9);
        b.become(2, 3, 1);
        b.obey(NONE);
        b.forget();
        b.see(1, 3);
        b.see(1, 4);
        b.gaps(0, 0, 999);
        b.become(0, 0, 99);
        for (int i = 0; i < 2; i++) {
            Check.same("restore", b.restore(), true);
            Check.same("OVER", b.lesson(0, 3), 7);
            Check.same("GAP", b.lesson(1, 11), 5);
            Check.same("ROOM", b.lesson(1, 4), 0);
            Check.same("LIMIT", b.lesson(2, 9), 99);
            Check.same("RULE", b.count(2), 1);
            Check.same("ACTS", b.count(5), 3);
            Check.same("SEEN", b.count(6), 1);
            Check.same("STATUS stays", b.count(10), 1);
            Check.same("GAPS that are kept stay", b.gap(0), 0);
            Check.same("undo as then", b.undo(), 2);
            Check.same("undo as then: the RULE", b.count(2), NONE);
            Check.same("undo as then: of another lesson", b.undo(), 1);
            Check.same("undo as then: its GAP", b.lesson(1, 11), 0);
            Check.same("SEEN as then", b.fits(0), 1 + 31 + 31);
            b.become(0, 0, 33);
        }
        b.image();
        b.become(0, 0, 34);
        b.restore();
        Check.same("in place of another one", b.lesson(0, 3), 33);
    }

    private static void wrongLessons() {
        MarshBells b = Check.told(ROW);
        for (int lesson : new int[] {-1, 3, 12, Integer.MIN_VALUE, Integer.MAX_VALUE}) {
            Check.missing("lesson " + lesson, () -> b.lesson(lesson, 0));
            Check.missing("day " + lesson, () -> b.day(lesson, 0));
            Check.missing("chain " + lesson, () -> b.chain(lesson, 0));
            Check.missing("become " + lesson, () -> b.become(lesson, 0, 0));
            Check.missing("far " + lesson, () -> b.far(lesson, 0, 0));
            Check.missing("reaches " + lesson, () -> b.reaches(lesson, 0));
            Check.missing("slack " + lesson, () -> b.slack(lesson));
            Check.missing("gaps " + lesson, () -> b.gaps(0, lesson, 0));
            Check.missing("gap " + lesson, () -> b.gap(lesson));
            Check.missing("chance " + lesson, () -> b.chance(lesson, 0, 0));
            Check.missing("mean " + lesson, () -> b.mean(lesson, 0));
            Check.missing("room " + lesson, () -> b.room(lesson, 0));
            Check.missing("limit " + lesson, () -> b.limit(lesson, 0));
            Check.missing("see " + lesson, () -> b.see(lesson, 0));
            Check.missing("term " + lesson, () -> b.term(1, 1, lesson, 0));
            Check.missing("shift " + lesson, () -> b.shift(lesson, 0));
            Check.missing("harm " + lesson, () -> b.harm(lesson, 0));
        }
        Check.same("nothing was counted", b.count(10) + b.count(11), 0);
    }
}
