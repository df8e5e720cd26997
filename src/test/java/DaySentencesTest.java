/** The document's part 2, promises 5 to 11, 39 and 40: each sentence with an edge has a test of its own. */
public final class DaySentencesTest {
    private static final int NONE = MarshBells.NONE;
    private static final int[] NO_INDEX = {-1, Integer.MIN_VALUE, Integer.MAX_VALUE};

    /** Each lesson waits for the one ahead of it: ends 14, 24, 34, each late by 4. */
    private static final String ROW = "lesson 0 10 10 4 0 1;lesson 10 20 10 0 0 2 all 0;lesson 20 30 10 0 0 3 all 1;";

    public static void main(String[] args) {
        ways();
        beginnings();
        endings();
        byWhom();
        acts();
        counts();
        lessons();
        days();
        chains();
        becoming();
        obeying();
        undoing();
        images();
        Check.end();
    }

    private static void begins(String text, int lesson, int minute, int byWhom) {
        MarshBells b = Check.told(text);
        Check.same("begins: " + text, b.day(lesson, 0), minute);
        Check.same("BY WHOM: " + text, b.day(lesson, 4), byWhom);
    }

    private static void ways() {
        Check.sentence("whoever comes from a LESSON is there at its END, and the WAY", () -> {
            begins("lesson 0 10 1 0 0 1;lesson 5 90 1 0 0 1 all 0;", 1, 10, 0);
            begins("lesson 0 10 25 4 0 1;lesson 5 90 1 0 0 1 all 0;", 1, 29, 0);
            begins("lesson 0 10 25 4 0 1;lesson 5 90 1 0 3 1 all 0;", 1, 32, 0);
        });
        Check.sentence("WALK by how many ROOMS are between both", () -> {
            String to = "lesson 0 10 1 0 4 1;lesson 5 90 1 0 ";
            begins("walk 2;" + to + "4 1 all 0;", 1, 10, 0);
            begins("walk 2;" + to + "3 1 all 0;", 1, 12, 0);
            begins("walk 2;" + to + "0 1 all 0;", 1, 18, 0);
            begins("walk 0;" + to + "0 1 all 0;", 1, 10, 0);
            begins("walk 9;" + to + "0 1 all 0;", 1, 46, 0);
            begins(to + "0 1 all 0;", 1, 14, 0);
            begins("walk 2;lesson 0 10 1 0 0 1;lesson 5 90 1 0 4 1 all 0;", 1, 18, 0);
            begins("walk 9;lesson 0 10 1 0 0 1;lesson 5 90 1 0 9 1 all 0;", 1, 10 + 81 + 1, 0);
            begins("walk 9;lesson 0 10 1 0 9 1;lesson 5 90 1 0 0 1 all 0;", 1, 10 + 81 + 1, 0);
        });
        Check.sentence("if one ROOM is below 5 and the other isn't", () -> {
            int[][] rooms = {{4, 5, 3}, {5, 4, 3}, {0, 9, 3}, {9, 0, 3}, {0, 4, 0}, {4, 4, 0}, {5, 9, 0}, {9, 5, 0}, {5, 5, 0}};
            for (int[] r : rooms) {
                begins("walk 0;stair 1;lesson 0 10 1 0 " + r[0] + " 3;lesson 5 90 1 0 " + r[1] + " 1 all 0;", 1, 10 + r[2], 0);
            }
        });
        Check.sentence("PEOPLE (of that LESSON) by STAIR, cut up", () -> {
            int[][] cut = {{20, 10, 2}, {21, 10, 3}, {19, 10, 2}, {1, 99, 1}, {99, 99, 1}, {99, 98, 2}, {99, 1, 99}, {1, 1, 1}};
            for (int[] c : cut) {
                String text = "walk 0;stair " + c[1] + ";lesson 0 10 1 0 0 " + c[0] + ";lesson 10 200 1 0 5 50 all 0;";
                begins(text, 1, 10 + c[2], 0);
            }
            begins("walk 0;lesson 0 10 1 0 0 99;lesson 10 200 1 0 5 50 all 0;", 1, 11, 0);
        });
        Check.sentence("and GAP (of whoever waits) sooner.", () -> {
            String from = "walk 3;lesson 0 10 1 0 0 1 gap 30;lesson 5 90 1 0 1 1 all 0";
            begins(from + ";", 1, 13, 0);
            begins(from + " gap 1;", 1, 12, 0);
            begins(from + " gap 7;", 1, 6, 0);
            begins(from + " gap 8;", 1, 5, NONE);
            begins(from + " gap 30;", 1, 5, NONE);
        });
    }

    private static void beginnings() {
        Check.sentence("It BEGINS at FROM, or later", () -> {
            begins("lesson 0 1 1 0 0 1;", 0, 0, NONE);
            begins("lesson 0 10 1 0 0 1;lesson 11 90 1 0 0 1 all 0;", 1, 11, NONE);
            begins("lesson 0 10 1 0 0 1;lesson 10 90 1 0 0 1 all 0;", 1, 10, NONE);
            begins("lesson 0 10 1 0 0 1;lesson 9 90 1 0 0 1 all 0;", 1, 10, 0);
        });
        Check.sentence("when all are there (SORT 0), when so many are (SORT 1)", () -> {
            String six = "lesson 0 60 1 0 0 1;lesson 0 20 1 0 0 1;lesson 0 50 1 0 0 1;lesson 0 30 1 0 0 1;lesson 0 40 1 0 0 1;"
                + "lesson 0 10 1 0 0 1;lesson 5 90 1 0 0 1 ";
            begins(six + "all 0 1 2 3 4 5;", 6, 60, 0);
            int[] whom = {5, 1, 3, 4, 2, 0};
            for (int some = 1; some <= 6; some++) {
                begins(six + "some " + some + " 0 1 2 3 4 5;", 6, 10 * some, whom[some - 1]);
            }
            begins(six + "some 1 0;", 6, 60, 0);
            begins(six + "all 1;", 6, 20, 1);
            begins("lesson 0 60 1 0 0 1;lesson 5 90 1 0 0 1;", 1, 5, NONE);
            // Two come at once: with them two are there.
            String like = "lesson 0 20 1 0 0 1;lesson 0 20 1 0 0 1;lesson 0 30 1 0 0 1;lesson 5 90 1 0 0 1 ";
            begins(like + "some 1 2 1 0;", 3, 20, 1);
            begins(like + "some 2 2 1 0;", 3, 20, 1);
            begins(like + "some 3 2 1 0;", 3, 30, 2);
        });
        Check.sentence("but at FROM and LIMIT at the latest.", () -> {
            for (String sort : new String[] {"all 0", "some 1 0"}) {
                String text = "lesson 0 30 1 0 0 1;lesson 20 90 1 0 0 1 " + sort + " limit ";
                begins(text + "11;", 1, 30, 0);
                begins(text + "10;", 1, 30, 0);
                begins(text + "9;", 1, 29, NONE);
                begins(text + "0;", 1, 20, NONE);
            }
            begins("lesson 0 119 1 0 0 1;lesson 20 900 1 0 0 1 all 0;", 1, 119, 0);
            begins("lesson 0 120 1 0 0 1;lesson 20 900 1 0 0 1 all 0;", 1, 119, NONE);
        });
    }

    private static void endings() {
        Check.sentence("It would end at TO, or LEAST behind its beginning, whichever is later", () -> {
            int[][] least = {{1, 10}, {9, 10}, {10, 10}, {11, 11}, {200, 200}};
            for (int[] l : least) {
                Check.same("LEAST " + l[0], Check.told("lesson 0 10 " + l[0] + " 0 0 1;").day(0, 1), l[1]);
            }
            String later = "lesson 0 10 1 0 0 1;lesson 3 20 ";
            Check.same("begun later, 10", Check.told(later + "10 0 0 1 all 0;").day(1, 1), 20);
            Check.same("begun later, 11", Check.told(later + "11 0 0 1 all 0;").day(1, 1), 21);
        });
        Check.sentence("and it runs OVER that by what the RULE in force gives (kept to 0 to 60; without one: 'over')", () -> {
            String[] rules = {"0-1", "0", "1", "59", "60", "61", "9999", "8192*8192*32", "8192*8192*32-1"};
            int[] kept = {0, 0, 1, 59, 60, 60, 60, 0, 60};
            for (int i = 0; i < rules.length; i++) {
                MarshBells b = Check.ruled(rules[i]);
                Check.same("runs over: " + rules[i], b.day(0, 3), kept[i]);
                Check.same("ends: " + rules[i], b.day(0, 1), 110 + kept[i]);
            }
            for (int over : new int[] {0, 60}) {
                MarshBells b = Check.told("lesson 0 10 30 " + over + " 0 1;rule 9;");
                Check.same("without one, " + over, b.day(0, 1), 30 + over);
            }
        });
        Check.sentence("LATE it is by its END less TO.", () -> {
            Check.same("not", Check.told("lesson 0 10 10 0 0 1;").day(0, 2), 0);
            Check.same("by LEAST", Check.told("lesson 0 10 11 0 0 1;").day(0, 2), 1);
            Check.same("by OVER", Check.told("lesson 0 10 9 1 0 1;").day(0, 2), 1);
            Check.same("by both", Check.told("lesson 0 10 200 60 0 1;").day(0, 2), 250);
            Check.same("begun later, but not LATE",
                Check.told("lesson 0 10 1 0 0 1;lesson 3 20 10 0 0 1 all 0;").day(1, 2), 0);
        });
    }

    private static void byWhom() {
        String like = "lesson 0 10 1 0 0 1;lesson 0 10 1 0 0 1;lesson 0 10 1 0 0 1;lesson 0 9 1 0 0 1;lesson 5 40 1 0 0 1 ";
        Check.sentence("the one by whose coming it begins as late as it does, and later than FROM (of like ones the first told)", () -> {
            begins(like + "all 3 2 1 0;", 4, 10, 2);
            begins(like + "all 3 0 1 2;", 4, 10, 0);
            begins(like + "all 1 3 0;", 4, 10, 1);
            begins(like + "some 2 3 2 0;", 4, 10, 2);
            begins(like + "some 1 2 0 3;", 4, 9, 3);
        });
        Check.sentence("none, if it begins at FROM, or ahead of that coming by LIMIT.", () -> {
            begins("lesson 0 10 1 0 0 1;lesson 10 40 1 0 0 1 all 0;", 1, 10, NONE);
            begins("lesson 0 10 1 0 0 1;lesson 9 40 1 0 0 1 all 0 limit 0;", 1, 9, NONE);
            begins("lesson 0 10 1 0 0 1;lesson 8 40 1 0 0 1 all 0 limit 1;", 1, 9, NONE);
            begins("lesson 0 10 1 0 0 1;lesson 8 40 1 0 0 1 all 0 limit 2;", 1, 10, 0);
            // It begins by LIMIT just when another one comes: not by that one either.
            begins("lesson 0 9 1 0 0 1;lesson 0 10 1 0 0 1;lesson 8 40 1 0 0 1 all 0 1 limit 1;", 2, 9, NONE);
        });
        Check.sentence("it, BY WHOM it is late, BY WHOM that one is, and so on.", () -> {
            StringBuilder text = new StringBuilder("walk 0;lesson 0 10 1 9 0 1;");
            for (int i = 1; i < 12; i++) {
                text.append("lesson ").append(10 * i).append(' ').append(10 * i + 10).append(" 10 0 0 1 all ").append(i - 1).append(';');
            }
            MarshBells b = Check.told(text.toString());
            for (int i = 0; i < 12; i++) {
                Check.same("link " + i, b.chain(11, i), 11 - i);
            }
            Check.same("no further", b.chain(11, 12), NONE);
            b.become(5, 1, 9);
            Check.same("none is late by it any more", b.chain(11, 1), NONE);
            b.become(5, 0, 3);
            Check.same("up to one that begins at FROM", b.chain(11, 6), 5);
            Check.same("not beyond it", b.chain(11, 7), NONE);
        });
    }

    private static void acts() {
        Check.sentence("ACTS (at most 40 are kept, the latest ones)", () -> {
            MarshBells b = Check.told(ROW + "rule 1;");
            b.become(0, 0, 60);
            for (int n = 1; n <= 39; n++) {
                b.become(0, 0, n);
            }
            Check.same("40", b.count(5), 40);
            b.become(1, 2, 7);
            Check.same("40 still", b.count(5), 40);
            b.obey(0);
            Check.same("40 with a RULE, too", b.count(5), 40);
            for (int left = 39; left >= 0; left--) {
                Check.same("left", b.undo(), left);
            }
            Check.same("no more", b.undo(), NONE);
            Check.same("the first two stand", b.lesson(0, 3), 1);
            Check.same("the others don't: ROOM", b.lesson(1, 4), 0);
            Check.same("the others don't: RULE", b.count(2), NONE);
        });
        Check.sentence("OVER (0 to 60), GAP (0 to 30), ROOM (0 to 9), LIMIT (0 to 99) of a LESSON becomes another", () -> {
            int[] most = {60, 30, 9, 99};
            int[] what = {3, 11, 4, 9};
            for (int kind = 0; kind < 4; kind++) {
                MarshBells b = Check.told(ROW);
                int was = b.lesson(1, what[kind]);
                Check.same("most", b.become(1, kind, most[kind]), was);
                Check.same("it is", b.lesson(1, what[kind]), most[kind]);
                Check.same("one more", b.become(1, kind, most[kind] + 1), NONE);
                Check.same("0", b.become(1, kind, 0), most[kind]);
                Check.same("it is 0", b.lesson(1, what[kind]), 0);
                Check.same("one less", b.become(1, kind, -1), NONE);
                Check.same("others stay", b.lesson(0, what[kind]), kind == 0 ? 4 : kind == 3 ? 99 : 0);
            }
        });
        Check.sentence("the RULE in force does (none at first).", () -> {
            MarshBells b = Check.told("lesson 0 10 1 4 0 1;rule 9;");
            Check.same("none at first", b.count(2), NONE);
            Check.same("by 'over'", b.day(0, 3), 4);
            b.obey(0);
            Check.same("by the RULE", b.day(0, 3), 9);
            b.obey(NONE);
            Check.same("by 'over' again", b.day(0, 3), 4);
        });
        Check.sentence("They are UNDONE, the last one first.", () -> {
            MarshBells b = Check.told(ROW);
            b.become(0, 0, 5);
            b.become(0, 0, 6);
            b.become(1, 0, 7);
            b.undo();
            Check.same("the last", b.lesson(1, 3), 0);
            Check.same("not yet the others", b.lesson(0, 3), 6);
            b.undo();
            Check.same("the one ahead of it", b.lesson(0, 3), 5);
            b.become(2, 0, 8);
            b.undo();
            Check.same("one between", b.lesson(2, 3), 0);
            b.undo();
            Check.same("the first", b.lesson(0, 3), 4);
        });
        Check.sentence("LOST are PEOPLE by LATE of all LESSONS, together.", () -> {
            Check.same("of three", Check.told(ROW).count(7), 4 + 2 * 4 + 3 * 4);
            Check.same("of none that is LATE", Check.told("lesson 0 10 10 0 0 99;").count(7), 0);
            Check.same("of none", Check.told("").count(7), 0);
            Check.same("the most of twelve", Check.told("lesson 0 1 200 60 0 99;".repeat(12)).count(7), 12 * 99 * 259);
        });
    }

    private static void counts() {
        Check.sentence("0 LESSONS, 1 RULES, 2 the RULE in force (NONE), 3 WALK, 4 STAIR", () -> {
            MarshBells b = Check.told(ROW + "rule 1;rule 2;walk 5;stair 6;");
            int[] want = {3, 2, NONE, 5, 6};
            for (int what = 0; what < 5; what++) {
                Check.same("count " + what, b.count(what), want[what]);
            }
            b.obey(0);
            Check.same("in force", b.count(2), 0);
        });
        Check.sentence("5 ACTS that are kept, 6 SEEN, 7 LOST, 8 bytes of the tape, 9 to 11 STATUS 0 to 2", () -> {
            MarshBells b = Check.told(ROW + "rule 1;");
            b.become(0, 0, 7);
            b.obey(0);
            b.obey(NONE);
            b.see(0, 1);
            b.see(0, 1);
            b.feed(0, 0, 0, 0, 0);
            Check.same("ACTS", b.count(5), 3);
            Check.same("SEEN", b.count(6), 2);
            Check.same("LOST", b.count(7), 42);
            Check.same("bytes", b.count(8), 20);
        });
        Check.sentence("STATUS: how many calls were refused: 0 of TEXTS with a FAULT, 1 of ACTS, 2 of what is SEEN.", () -> {
            MarshBells b = Check.told(ROW);
            Check.tell(b, "soup");
            b.become(0, 0, -1);
            b.obey(0);
            b.see(0, -1);
            b.see(0, 1000);
            b.see(0, Integer.MIN_VALUE);
            Check.same("of TEXTS", b.count(9), 1);
            Check.same("of ACTS", b.count(10), 2);
            Check.same("of SEEN", b.count(11), 3);
            b.undo();
            b.restore();
            b.gaps(0, 2, 0);
            Check.missing("no such what", () -> b.become(0, 4, 1));
            Check.missing("no such LESSON", () -> b.see(3, 1));
            Check.illegal("no such bytes", () -> b.house(1));
            Check.same("by nothing else: TEXTS", b.count(9), 1);
            Check.same("by nothing else: ACTS", b.count(10), 2);
            Check.same("by nothing else: SEEN", b.count(11), 3);
        });
        Check.sentence("12 how many LESSONS are LATE (by 1 or more), 13 how much the latest of them is (0 without)", () -> {
            MarshBells b = Check.told("lesson 0 10 1 0 0 1;lesson 0 10 1 1 0 1;lesson 0 10 1 5 0 1;lesson 0 10 1 3 0 1;");
            Check.same("LATE ones", b.count(12), 3);
            Check.same("the latest", b.count(13), 5);
            MarshBells first = Check.told("lesson 0 10 1 2 0 1;lesson 0 10 1 0 0 1;");
            Check.same("the first alone", first.count(12), 1);
            Check.same("the latest is the first", first.count(13), 2);
            MarshBells none = Check.told("lesson 0 10 1 0 0 1;lesson 0 10 10 0 0 1;");
            Check.same("none: LATE ones", none.count(12), 0);
            Check.same("none: the latest", none.count(13), 0);
        });
        Check.sentence("14 how many BEGIN later than FROM.", () -> {
            String two = "lesson 0 10 1 0 0 1;lesson 10 30 1 0 0 1 all 0;lesson 9 30 1 0 0 1 all 0;lesson 9 30 1 0 0 1 all 0 limit 0;";
            Check.same("one", Check.told(two).count(14), 1);
            Check.same("none", Check.told("lesson 0 10 99 9 0 1;").count(14), 0);
        });
        Check.sentence("14 how many BEGIN later than FROM. NoSuchElementException: another what.", () -> {
            MarshBells b = Check.told(ROW);
            Check.missing("15", () -> b.count(15));
            for (int what : NO_INDEX) {
                Check.missing("count " + what, () -> b.count(what));
            }
            Check.missing("of a new object", () -> new MarshBells().count(15));
        });
    }

    private static void lessons() {
        Check.sentence("Of a LESSON: 0 FROM, 1 TO, 2 LEAST, 3 OVER, 4 ROOM, 5 PEOPLE, 6 SORT", () -> {
            MarshBells b = Check.told("lesson 11 12 13 14 5 16;lesson 21 22 23 24 6 26 all 0;lesson 31 32 33 34 7 36 some 1 0;");
            int[][] want = {{11, 12, 13, 14, 5, 16, 2}, {21, 22, 23, 24, 6, 26, 0}, {31, 32, 33, 34, 7, 36, 1}};
            for (int lesson = 0; lesson < 3; lesson++) {
                for (int what = 0; what < 7; what++) {
                    Check.same("lesson " + lesson + ", " + what, b.lesson(lesson, what), want[lesson][what]);
                }
            }
        });
        Check.sentence("9 LIMIT, 10 MAYBE, 11 GAP.", () -> {
            MarshBells b = Check.told("lesson 0 10 1 0 0 1 limit 41 maybe 2 gap 23;lesson 0 10 1 0 0 1;");
            int[][] want = {{41, 2, 23}, {99, 10, 0}};
            for (int lesson = 0; lesson < 2; lesson++) {
                for (int what = 9; what < 12; what++) {
                    Check.same("lesson " + lesson + ", " + what, b.lesson(lesson, what), want[lesson][what - 9]);
                }
            }
        });
        Check.sentence("7 of some: how many (0 else), 8 for whom it WAITS (bits)", () -> {
            MarshBells b = Check.told("lesson 0 10 1 0 0 1;".repeat(8) + "lesson 0 10 1 0 0 1 some 2 7 0 3;lesson 0 10 1 0 0 1 all 8;");
            Check.same("of some", b.lesson(8, 7), 2);
            Check.same("bits of some", b.lesson(8, 8), 1 << 7 | 1 | 1 << 3);
            Check.same("of all", b.lesson(9, 7), 0);
            Check.same("bits of all", b.lesson(9, 8), 1 << 8);
            Check.same("of none", b.lesson(0, 7), 0);
            Check.same("bits of none", b.lesson(0, 8), 0);
        });
        Check.sentence("NoSuchElementException: no such LESSON (as everywhere), what.", () -> {
            MarshBells b = Check.told(ROW);
            Check.missing("what 12", () -> b.lesson(0, 12));
            for (int what : NO_INDEX) {
                Check.missing("what " + what, () -> b.lesson(0, what));
            }
            for (int lesson : new int[] {3, 4, 12, 32, -1, Integer.MIN_VALUE, Integer.MAX_VALUE}) {
                noSuchLesson(b, lesson);
            }
            noSuchLesson(new MarshBells(), 0);
            MarshBells fewer = Check.told(ROW);
            Check.tell(fewer, "lesson 0 10 1 0 0 1;");
            noSuchLesson(fewer, 1);
        });
    }

    private static void noSuchLesson(MarshBells b, int lesson) {
        Check.missing("lesson " + lesson, () -> b.lesson(lesson, 0));
        Check.missing("day " + lesson, () -> b.day(lesson, 0));
        Check.missing("chain " + lesson, () -> b.chain(lesson, 0));
        Check.missing("become " + lesson, () -> b.become(lesson, 0, 0));
        Check.missing("far " + lesson, () -> b.far(lesson, 0, 0));
        Check.missing("reaches from " + lesson, () -> b.reaches(lesson, 0));
        Check.missing("reaches " + lesson, () -> b.reaches(0, lesson));
        Check.missing("slack " + lesson, () -> b.slack(lesson));
        Check.missing("gaps " + lesson, () -> b.gaps(0, lesson, 0));
        Check.missing("gap " + lesson, () -> b.gap(lesson));
        Check.missing("chance " + lesson, () -> b.chance(lesson, 0, 0));
        Check.missing("mean " + lesson, () -> b.mean(lesson, 0));
        Check.missing("room " + lesson, () -> b.room(lesson, 0));
        Check.missing("limit " + lesson, () -> b.limit(lesson, 0));
        Check.missing("see " + lesson, () -> b.see(lesson, 0));
        Check.missing("term " + lesson, () -> b.term(1, 1, lesson, 0));
        Check.missing("shift " + lesson, () -> b.shift(lesson, 0));
        Check.missing("harm of " + lesson, () -> b.harm(lesson, 0));
        Check.missing("harm to " + lesson, () -> b.harm(0, lesson));
    }

    private static void days() {
        Check.sentence("when it BEGINS (what 0), its END (1), LATE (2), by how much it runs OVER (3), BY WHOM (4; NONE).", () -> {
            MarshBells b = Check.told("walk 0;lesson 0 10 1 7 0 1;lesson 12 30 20 2 0 1 all 0;");
            int[] first = {0, 17, 7, 7, NONE};
            int[] second = {17, 39, 9, 2, 0};
            for (int what = 0; what < 5; what++) {
                Check.same("first " + what, b.day(0, what), first[what]);
                Check.same("second " + what, b.day(1, what), second[what]);
            }
        });
        Check.sentence("BY WHOM (4; NONE). NoSuchElementException: also another what.", () -> {
            MarshBells b = Check.told(ROW);
            Check.missing("5", () -> b.day(0, 5));
            for (int what : NO_INDEX) {
                Check.missing("day what " + what, () -> b.day(0, what));
            }
        });
    }

    private static void chains() {
        Check.sentence("The i-th of THE CHAIN (0: it); NONE: it isn't so long.", () -> {
            MarshBells b = Check.told(ROW);
            Check.same("it", b.chain(2, 0), 2);
            Check.same("the last of it", b.chain(2, 2), 0);
            Check.same("one more", b.chain(2, 3), NONE);
            for (int i : new int[] {4, 12, 13, 1000, Integer.MAX_VALUE}) {
                Check.same("very many " + i, b.chain(2, i), NONE);
            }
            Check.same("one that waits for nobody", b.chain(0, 0), 0);
            Check.same("it is so long", b.chain(0, 1), NONE);
        });
        Check.sentence("NONE: it isn't so long. NoSuchElementException: also i is below 0.", () -> {
            MarshBells b = Check.told(ROW);
            Check.missing("-1", () -> b.chain(0, -1));
            Check.missing("the least", () -> b.chain(0, Integer.MIN_VALUE));
        });
    }

    private static void becoming() {
        Check.sentence("An ACT: OVER (what 0), GAP (1), ROOM (2), LIMIT (3) of a LESSON becomes v: what it was.", () -> {
            MarshBells b = Check.told("lesson 0 10 1 11 2 1 limit 33 gap 22;");
            int[] was = {11, 22, 2, 33};
            for (int what = 0; what < 4; what++) {
                Check.same("was " + what, b.become(0, what, 1), was[what]);
                Check.same("is " + what, b.become(0, what, 1), 1);
            }
            Check.same("the same again is an ACT", b.count(5), 8);
        });
        Check.sentence("NONE (STATUS 1): v is not as told.", () -> {
            MarshBells b = Check.told(ROW);
            int[] most = {60, 30, 9, 99};
            int refused = 0;
            for (int what = 0; what < 4; what++) {
                for (int v : new int[] {most[what] + 1, -1, Integer.MIN_VALUE, Integer.MAX_VALUE}) {
                    Check.same(what + " becomes " + v, b.become(0, what, v), NONE);
                    refused++;
                    Check.same("STATUS 1", b.count(10), refused);
                }
            }
            Check.same("no ACT", b.count(5), 0);
            Check.same("nothing to undo", b.undo(), NONE);
            Check.same("OVER stays", b.lesson(0, 3), 4);
            Check.same("LIMIT stays", b.lesson(0, 9), 99);
        });
        Check.sentence("v is not as told. NoSuchElementException (ahead): also another what.", () -> {
            MarshBells b = Check.told(ROW);
            Check.missing("what 4", () -> b.become(0, 4, 1));
            Check.missing("what 4, ahead", () -> b.become(0, 4, -1));
            for (int what : NO_INDEX) {
                Check.missing("what " + what + ", ahead", () -> b.become(0, what, 1000));
            }
            Check.missing("no such LESSON, ahead", () -> b.become(3, 0, 1000));
            Check.same("no STATUS", b.count(10), 0);
            Check.same("no ACT", b.count(5), 0);
        });
    }

    private static void obeying() {
        Check.sentence("An ACT: the RULE in force (NONE: none): true.", () -> {
            MarshBells b = Check.told(ROW + "rule 1;rule 2;rule 3;rule 4;");
            Check.same("the last", b.obey(3), true);
            Check.same("it is in force", b.count(2), 3);
            Check.same("none", b.obey(NONE), true);
            Check.same("none is in force", b.count(2), NONE);
            Check.same("none again is an ACT", b.obey(NONE), true);
            Check.same("ACTS", b.count(5), 3);
            MarshBells without = new MarshBells();
            Check.same("none without any", without.obey(NONE), true);
            Check.same("an ACT without any", without.undo(), 0);
        });
        Check.sentence("False (STATUS 1): there is no such one.", () -> {
            MarshBells b = Check.told(ROW + "rule 1;rule 2;");
            b.obey(1);
            for (int rule : new int[] {2, 3, 4, -2, Integer.MIN_VALUE, Integer.MAX_VALUE}) {
                Check.same("obey " + rule, b.obey(rule), false);
            }
            Check.same("STATUS 1", b.count(10), 6);
            Check.same("no ACT", b.count(5), 1);
            Check.same("in force as before", b.count(2), 1);
            Check.same("of a new object", new MarshBells().obey(0), false);
        });
    }

    private static void undoing() {
        Check.sentence("The last ACT is UNDONE: how many are left. NONE: there is none.", () -> {
            MarshBells b = Check.told(ROW + "rule 1;rule 2;");
            Check.same("there is none", b.undo(), NONE);
            b.obey(0);
            b.become(2, 3, 5);
            b.obey(1);
            Check.same("left", b.undo(), 2);
            Check.same("the RULE ahead of it", b.count(2), 0);
            Check.same("left", b.undo(), 1);
            Check.same("LIMIT", b.lesson(2, 9), 99);
            Check.same("none is left", b.undo(), 0);
            Check.same("no RULE", b.count(2), NONE);
            Check.same("there is none any more", b.undo(), NONE);
            Check.same("still none", b.undo(), NONE);
            Check.same("ACTS", b.count(5), 0);
            b.become(0, 0, 9);
            Check.same("anew", b.undo(), 0);
            Check.same("OVER", b.lesson(0, 3), 4);
        });
    }

    private static void images() {
        Check.sentence("OVERS, GAPS, ROOMS, LIMITS, the RULE in force, ACTS and what is SEEN are kept as an image", () -> {
            MarshBells b = Check.told("lesson 0 10 10 4 0 1;lesson 10 20 10 0 0 2 all 0;rule over+0;rule 2;");
            b.become(0, 0, 6);
            b.become(1, 1, 1);
            b.become(1, 2, 2);
            b.become(0, 3, 3);
            b.obey(0);
            b.see(0, 6);
            b.image();
            for (int lesson = 0; lesson < 2; lesson++) {
                for (int what = 0; what < 4; what++) {
                    b.become(lesson, what, 9);
                }
            }
            b.obey(1);
            b.forget();
            b.see(1, 5);
            b.see(1, 5);
            Check.same("restore", b.restore(), true);
            int[][] want = {{0, 3, 6}, {1, 3, 0}, {0, 11, 0}, {1, 11, 1}, {0, 4, 0}, {1, 4, 2}, {0, 9, 3}, {1, 9, 99}};
            for (int[] w : want) {
                Check.same("lesson " + w[0] + ", " + w[1], b.lesson(w[0], w[1]), w[2]);
            }
            Check.same("the RULE", b.count(2), 0);
            Check.same("ACTS", b.count(5), 5);
            Check.same("SEEN", b.count(6), 1);
            Check.same("what is SEEN", b.fits(1), 6);
            int[] undone = {NONE, 99, 0, 0, 4};
            int[] left = {4, 3, 2, 1, 0};
            for (int i = 0; i < 5; i++) {
                Check.same("left of these", b.undo(), left[i]);
                int now = i == 0 ? b.count(2) : i == 1 ? b.lesson(0, 9) : i == 2 ? b.lesson(1, 4) : i == 3 ? b.lesson(1, 11) : b.lesson(0, 3);
                Check.same("undone " + i, now, undone[i]);
            }
        });
        Check.sentence("ACTS and what is SEEN are kept as an image", () -> {
            MarshBells b = Check.told(ROW + "rule 1;");
            b.become(0, 0, 5);
            b.become(1, 1, 6);
            b.see(0, 5);
            b.see(1, 7);
            b.image();
            b.undo();
            b.undo();
            b.obey(0);
            b.become(2, 3, 8);
            b.forget();
            b.see(2, 9);
            b.restore();
            Check.same("SEEN", b.count(6), 2);
            Check.same("what is SEEN", b.fits(0), 1);
            Check.same("the first that fits", b.fits(1), 100 + 7);
            Check.same("the last ACT as it was", b.undo(), 1);
            Check.same("its GAP", b.lesson(1, 11), 0);
            Check.same("the one ahead of it as it was", b.undo(), 0);
            Check.same("its OVER", b.lesson(0, 3), 4);
        });
        Check.sentence("in place of another one.", () -> {
            MarshBells b = Check.told(ROW);
            b.image();
            b.become(0, 0, 5);
            b.image();
            b.become(0, 0, 6);
            b.restore();
            Check.same("the latest image", b.lesson(0, 3), 5);
            b.restore();
            Check.same("no older one behind it", b.lesson(0, 3), 5);
            Check.same("ACTS", b.count(5), 1);
        });
        Check.sentence("They are as the image again: true. False: there is none.", () -> {
            MarshBells b = Check.told(ROW);
            Check.same("there is none", b.restore(), false);
            b.become(0, 0, 5);
            Check.same("there is none still", b.restore(), false);
            Check.same("and nothing changes", b.lesson(0, 3), 5);
            b.image();
            for (int i = 0; i < 3; i++) {
                b.become(0, 0, 10 + i);
                Check.same("again and again", b.restore(), true);
                Check.same("as it was", b.lesson(0, 3), 5);
            }
            MarshBells full = Check.told(ROW);
            for (int n = 0; n < 45; n++) {
                full.become(0, 0, n);
            }
            for (int n = 0; n < 8; n++) {
                full.see(0, n);
            }
            full.image();
            full.undo();
            full.forget();
            Check.same("of as many as can be", full.restore(), true);
            Check.same("40 ACTS", full.count(5), 40);
            Check.same("8 SEEN", full.count(6), 8);
            Check.same("a ninth", full.see(0, 0), NONE);
            MarshBells empty = new MarshBells();
            empty.image();
            Check.same("of nothing", empty.restore(), true);
        });
        Check.sentence("GAPS that are kept, the image are gone", () -> {
            MarshBells b = Check.told(ROW);
            b.gaps(2, 1, 2);
            b.image();
            b.gaps(2, 1, 1);
            b.restore();
            Check.same("GAPS that are kept are no part of an image", b.gap(1), 3);
            Check.tell(b, "soup");
            Check.same("not by a text with a FAULT", b.restore(), true);
            Check.tell(b, ROW);
            Check.same("by one without", b.restore(), false);
            Check.missing("GAPS, too", () -> b.gap(1));
        });
    }
}
