/** The document's parts 3 and 4, promises 12 to 25: each sentence with an edge has a test of its own. */
public final class TrialSentencesTest {
    private static final int NONE = MarshBells.NONE;
    private static final int[] NO_INDEX = {-1, Integer.MIN_VALUE, Integer.MAX_VALUE};

    /** Each lesson waits for the one ahead of it: ends 14, 24, 34, each late by 4. */
    private static final String ROW = "lesson 0 10 10 4 0 1;lesson 10 20 10 0 0 2 all 0;lesson 20 30 10 0 0 3 all 1;";

    /** Six minutes between the end of the first and the second. */
    private static final String LOOSE = "lesson 0 10 10 4 0 1;lesson 20 30 10 0 0 2 all 0;";

    /** The second lesson runs over by less, the later it begins. */
    private static final String HASTE = "walk 0;lesson 0 10 10 0 0 1;lesson 10 20 1 0 0 1 all 0;"
        + "rule over*(lesson=0)+(lesson=1)*(20-late*5);";

    public static void main(String[] args) {
        far();
        farCalls();
        reaches();
        slack();
        onTime();
        onTimeCalls();
        chances();
        chanceCalls();
        swaps();
        roomsAndLimits();
        last();
        rules();
        bell();
        nothingStays();
        Check.end();
    }

    private static MarshBells obeying(String text, int rule) {
        MarshBells b = Check.told(text);
        Check.same("obey", b.obey(rule), true);
        return b;
    }

    private static void far() {
        Check.sentence("were a LESSON's OVER by so many minutes (0 to 120) more (60 and more too", () -> {
            MarshBells b = Check.told("lesson 0 10 10 60 0 1;");
            for (int minutes : new int[] {0, 1, 59, 60, 61, 119, 120}) {
                Check.same("more by " + minutes, b.far(0, minutes, 1), minutes);
                Check.same("later by " + minutes, b.far(0, minutes, 0), minutes == 0 ? 0 : 1);
            }
        });
        Check.sentence("a RULE sees it so; what it gives is kept to 0 to 180 then, for this one", () -> {
            MarshBells b = obeying("lesson 0 10 1 20 0 1;lesson 0 10 1 20 0 1;rule over*2;rule over*9;rule 20-over;rule 60;", 0);
            Check.same("seen", b.far(0, 5, 1), 50 - 40);
            Check.same("179", obeying("lesson 0 10 1 20 0 1;rule over+58;", 0).far(0, 101, 1), 179 - 60);
            Check.same("180", obeying("lesson 0 10 1 20 0 1;rule over+58;", 0).far(0, 102, 1), 180 - 60);
            Check.same("181", obeying("lesson 0 10 1 20 0 1;rule over+58;", 0).far(0, 103, 1), 180 - 60);
            b.obey(1);
            Check.same("kept to 180, the other to 60", b.far(0, 1, 1), 180 - 60);
            Check.same("of the other", b.far(1, 1, 1), 180 - 60);
            b.obey(2);
            Check.same("kept to 0", b.far(0, 5, 1), 0);
            b.obey(3);
            Check.same("the RULE need not see it", b.far(0, 120, 1), 0);
            MarshBells other = obeying("walk 0;lesson 0 10 10 0 0 1;lesson 10 20 1 0 0 1 all 0;rule over+late*9;", 0);
            Check.same("one that waits is kept to 60", other.far(0, 20, 1), 20 + 31 - 20 + 60);
        });
        Check.sentence("which LESSONS' ENDS were later (bits), how much more all are LATE together", () -> {
            MarshBells row = Check.told(ROW);
            Check.same("all", row.far(0, 3, 0), 7);
            Check.same("all together", row.far(0, 3, 1), 9);
            Check.same("by 0: none", row.far(0, 0, 0), 0);
            Check.same("by 0: no more", row.far(0, 0, 1), 0);
            Check.same("none ahead of it", row.far(2, 3, 0), 4);
            MarshBells loose = Check.told(LOOSE);
            Check.same("where it dies", loose.far(0, 6, 0), 1);
            Check.same("one more", loose.far(0, 7, 0), 3);
            Check.same("one more together", loose.far(0, 7, 1), 7 + 1);
            MarshBells haste = obeying(HASTE, 0);
            Check.same("one that ends sooner is not later", haste.far(0, 2, 0), 1);
            Check.same("but all together are less LATE", haste.far(0, 2, 1), 2 - 10);
            Check.same("as late as before is not later", haste.far(0, 0, 0), 0);
        });
    }

    private static void farCalls() {
        Check.sentence("which (what 0, bits), how much more (1). NoSuchElementException: also another what.", () -> {
            MarshBells b = Check.told(ROW);
            Check.missing("2", () -> b.far(0, 1, 2));
            for (int what : NO_INDEX) {
                Check.missing("far what " + what, () -> b.far(0, 1, what));
            }
        });
        Check.sentence("IllegalArgumentException (behind that): minutes (as everywhere).", () -> {
            MarshBells b = Check.told(ROW);
            Check.illegal("121", () -> b.far(0, 121, 0));
            for (int minutes : NO_INDEX) {
                Check.illegal("far " + minutes, () -> b.far(0, minutes, 1));
                Check.missing("what is ahead", () -> b.far(0, minutes, 2));
                Check.missing("LESSON is ahead", () -> b.far(3, minutes, 0));
            }
            Check.same("120 is none", b.far(2, 120, 1), 120);
        });
    }

    private static void reaches() {
        Check.sentence("THE LEAST such minutes (1 to 120) by which another LESSON's END were later; none.", () -> {
            Check.same("1", Check.told(ROW).reaches(0, 2), 1);
            Check.same("7", Check.told(LOOSE).reaches(0, 1), 7);
            Check.same("120", Check.told("lesson 0 10 10 0 0 1;lesson 129 150 21 0 0 1 all 0;").reaches(0, 1), 120);
            Check.same("121 is none", Check.told("lesson 0 10 10 0 0 1;lesson 130 150 20 0 0 1 all 0;").reaches(0, 1), NONE);
            Check.same("none back", Check.told(ROW).reaches(2, 0), NONE);
            Check.same("none beside", Check.told(ROW + "lesson 0 5 1 0 0 1;").reaches(0, 3), NONE);
            Check.same("none by LIMIT", Check.told("lesson 0 10 10 0 0 1;lesson 9 19 10 0 0 1 all 0 limit 1;").reaches(0, 1), NONE);
            // It begins later, but has the time: its END isn't.
            Check.same("its beginning is not its END", Check.told("lesson 0 10 1 0 0 1;lesson 10 20 8 0 0 1 all 0;").reaches(0, 1), 3);
            MarshBells capped = obeying(ROW + "rule over*20;", 0);
            Check.same("not 0, where 0 comes as far", capped.far(0, 0, 0), 7);
            Check.same("but 1", capped.reaches(0, 2), 1);
            MarshBells odd = obeying(LOOSE + "rule over*(lesson=0)*(over<30 or 40<over)+0;", 0);
            odd.become(0, 0, 30);
            Check.same("the least, where fewer do nothing", odd.reaches(0, 1), 11);
        });
        Check.sentence("THE LEAST by which another one's END were later; NONE: none.", () -> {
            MarshBells b = Check.told(LOOSE + "lesson 31 40 9 0 0 1 all 1;");
            Check.same("one", b.reaches(0, 1), 7);
            Check.same("one over another", b.reaches(0, 2), 8);
            Check.same("none", b.reaches(1, 0), NONE);
            Check.same("nothing stays", b.lesson(0, 3), 4);
        });
        Check.sentence("IllegalArgumentException (behind NoSuchElementException): both are one.", () -> {
            MarshBells b = Check.told(ROW);
            for (int lesson = 0; lesson < 3; lesson++) {
                int one = lesson;
                Check.illegal("both are " + one, () -> b.reaches(one, one));
            }
            Check.missing("both are none", () -> b.reaches(3, 3));
            Check.missing("both are below 0", () -> b.reaches(-1, -1));
            Check.missing("from none", () -> b.reaches(3, 0));
            Check.missing("to none", () -> b.reaches(0, 3));
        });
    }

    private static void slack() {
        Check.sentence("the greatest (0 to 120) by which no other one's were (0, if there is none).", () -> {
            Check.same("0", Check.told(ROW).slack(0), 0);
            Check.same("1", Check.told("lesson 0 9 9 0 0 1;lesson 10 20 10 0 0 1 all 0;").slack(0), 1);
            Check.same("6", Check.told(LOOSE).slack(0), 6);
            Check.same("119", Check.told("lesson 0 10 10 0 0 1;lesson 129 150 21 0 0 1 all 0;").slack(0), 119);
            Check.same("120", Check.told("lesson 0 10 10 0 0 1;lesson 130 150 20 0 0 1 all 0;").slack(0), 120);
            Check.same("120, though 121 were no more", Check.told("lesson 0 10 10 0 0 1;").slack(0), 120);
            Check.same("of the last", Check.told(ROW).slack(2), 120);
            MarshBells less = obeying(ROW + "rule (over<50)*over;rule over*20;", 0);
            Check.same("the greatest, where fewer come as far", less.slack(0), 120);
            less.obey(1);
            Check.same("there is none", less.slack(0), 0);
        });
    }

    /** Six lessons, each waits for the one ahead of it, the first runs over by so many minutes. */
    private static String six(int over) {
        StringBuilder text = new StringBuilder("walk 0;lesson 0 10 10 " + over + " 0 1;");
        for (int i = 1; i < 6; i++) {
            text.append("lesson ").append(10 * i).append(' ').append(10 * i + 10).append(" 10 0 0 1 all ").append(i - 1).append(';');
        }
        return text.toString();
    }

    private static void dueGaps(String name, MarshBells b, int... want) {
        for (int i = 0; i < want.length; i++) {
            Check.same(name + ": gap " + i, b.gap(i), want[i]);
        }
    }

    private static void onTime() {
        Check.sentence("GAPS of LESSONS of a set (at most 5 of them) anew, each 0 to 4", () -> {
            MarshBells b = Check.told(six(20));
            Check.same("4 each", b.gaps(62, 5, 0), 20);
            dueGaps("4 each", b, 0, 4, 4, 4, 4, 4);
            b.become(0, 0, 21);
            Check.same("not 5", b.gaps(62, 5, 0), NONE);
            Check.same("but one later", b.gaps(62, 5, 1), 20);
            b.become(5, 1, 30);
            Check.same("anew: its own counts for nothing", b.gaps(62, 5, 0), NONE);
            Check.same("but if it isn't in the set", b.gaps(30, 5, 0), 0);
            Check.same("of nobody", b.gaps(0, 5, 0), 0);
            dueGaps("of nobody", b, 0, 0, 0, 0, 0, 30);
            Check.same("of nobody: none", b.gaps(0, 4, 0), NONE);
        });
        Check.sentence("by which a LESSON is LATE by no more than so many minutes (0 to 999)", () -> {
            MarshBells b = Check.told(six(4));
            int[] want = {4, 3, 2, 1, 0, 0};
            for (int late = 0; late < want.length; late++) {
                Check.same("LATE by " + late, b.gaps(32, 5, late), want[late]);
            }
            Check.same("LATE by 999", b.gaps(32, 5, 999), 0);
            Check.same("none helps the first", b.gaps(31, 0, 3), NONE);
            Check.same("it is LATE by 4", b.gaps(31, 0, 4), 0);
        });
        Check.sentence("the fewest minutes of GAPS together; of like ones the first as a row (the least LESSON first, the least GAP first); none.", () -> {
            MarshBells b = Check.told(six(6));
            Check.same("of three", b.gaps(14, 3, 1), 5);
            dueGaps("of three", b, 0, 0, 1, 4, 0, 0);
            Check.same("of two", b.gaps(10, 3, 0), 6);
            dueGaps("of two", b, 0, 2, 0, 4, 0, 0);
            Check.same("fewer ahead of more", b.gaps(14, 3, 5), 1);
            dueGaps("fewer", b, 0, 0, 0, 1, 0, 0);
            // For two that come from lesson 0 it takes a gap each; one of lesson 0 itself does nothing.
            MarshBells fork = Check.told("walk 0;lesson 0 10 10 2 0 1;lesson 10 20 10 0 0 1 all 0;lesson 10 20 10 0 0 1 all 0;"
                + "lesson 20 30 10 0 0 1 all 1 2;");
            Check.same("one for both", fork.gaps(15, 3, 0), 2);
            dueGaps("one for both", fork, 0, 0, 0, 2);
            Check.same("each for itself", fork.gaps(7, 3, 0), 4);
            dueGaps("each for itself", fork, 0, 2, 2, 0);
            Check.same("none", fork.gaps(3, 3, 0), NONE);
            // Those of the set that have nothing to do with it stand between, and behind it.
            MarshBells apart = Check.told("walk 0;lesson 0 10 10 4 0 1;lesson 0 10 10 4 0 1 gap 9;lesson 10 20 10 0 0 1 all 1 gap 8;"
                + "lesson 10 20 10 0 0 1 all 0 gap 7;lesson 20 30 10 0 0 1 all 3 gap 6;lesson 20 30 10 0 0 1 all 3 gap 5;");
            Check.same("beside and behind", apart.gaps(0b101111, 3, 1), 3);
            dueGaps("beside and behind", apart, 0, 0, 0, 3, 6, 0);
            Check.same("without itself", apart.gaps(0b100110, 4, 0), 0);
            dueGaps("without itself", apart, 0, 0, 0, 7, 6, 0);
            Check.same("GAPS stay", apart.lesson(1, 11) + apart.lesson(5, 11), 9 + 5);
            MarshBells ahead = Check.told("walk 0;lesson 0 10 10 4 0 1;lesson 0 10 10 4 0 1 gap 9;lesson 10 20 10 0 0 1 all 0;");
            Check.same("right behind one that has nothing to do with it", ahead.gaps(0b110, 2, 1), 3);
            dueGaps("right behind it", ahead, 0, 0, 3);
            MarshBells first = Check.told("lesson 0 10 10 4 0 1 gap 9;lesson 0 10 10 4 0 1;");
            Check.same("the first has nothing to do with it", first.gaps(0b01, 1, 4), 0);
            dueGaps("its GAP is anew all the same", first, 0, 0);
        });
    }

    private static void onTimeCalls() {
        Check.sentence("ON TIME: minutes; GAPS are kept; NONE: none (what is kept stays).", () -> {
            MarshBells b = Check.told(six(4));
            Check.same("minutes", b.gaps(32, 5, 0), 4);
            dueGaps("kept", b, 0, 0, 0, 0, 0, 4);
            Check.same("none", b.gaps(16, 3, 0), NONE);
            dueGaps("what is kept stays", b, 0, 0, 0, 0, 0, 4);
            Check.illegal("a call that throws", () -> b.gaps(32, 5, 1000));
            dueGaps("stays then, too", b, 0, 0, 0, 0, 0, 4);
            Check.same("another", b.gaps(8, 3, 2), 2);
            dueGaps("in place of them", b, 0, 0, 0, 2, 0, 0);
            Check.same("GAPS themselves", b.lesson(3, 11), 0);
            Check.same("no ACT", b.count(5), 0);
            MarshBells first = Check.told(six(9));
            Check.same("none at first", first.gaps(2, 1, 0), NONE);
            Check.missing("nothing is kept then", () -> first.gap(1));
        });
        Check.sentence("bits of LESSONS that there aren't, more than 5, how LATE.", () -> {
            MarshBells b = Check.told(six(4));
            Check.illegal("six of six", () -> b.gaps(63, 5, 0));
            Check.same("five of six", b.gaps(31, 5, 0), 4);
            for (int set : new int[] {64, 65, 1 << 12, 1 << 30, Integer.MIN_VALUE, Integer.MAX_VALUE, -1}) {
                Check.illegal("a set of " + set, () -> b.gaps(set, 5, 0));
            }
            for (int late : new int[] {1000, -1, Integer.MIN_VALUE, Integer.MAX_VALUE}) {
                Check.illegal("LATE by " + late, () -> b.gaps(1, 5, late));
            }
            for (int lesson : new int[] {6, -1}) {
                Check.missing("LESSON " + lesson + " is ahead", () -> b.gaps(64, lesson, 1000));
            }
            MarshBells twelve = Check.told("lesson 0 5 1 0 0 1;".repeat(12));
            Check.same("the last of twelve", twelve.gaps(1 << 11, 0, 0), 0);
            Check.illegal("a thirteenth", () -> twelve.gaps(1 << 12, 0, 0));
        });
        Check.sentence("The GAP of a LESSON by what is kept (its own then, if it wasn't in the set). NoSuchElementException: also nothing is kept.", () -> {
            MarshBells b = Check.told(six(4));
            b.become(2, 1, 3);
            Check.missing("nothing is kept", () -> b.gap(2));
            b.gaps(2, 1, 2);
            b.become(2, 1, 9);
            b.become(1, 1, 9);
            dueGaps("then", b, 0, 2, 3, 0, 0, 0);
            Check.missing("no such LESSON", () -> b.gap(6));
        });
    }

    private static void dueChance(MarshBells b, int lesson, int late, long upper, long lower) {
        Check.same("chance, " + lesson + " by " + late, b.chance(lesson, late, 0), upper);
        Check.same("chance, lower, " + lesson + " by " + late, b.chance(lesson, late, 1), lower);
    }

    private static void dueMean(MarshBells b, int lesson, long upper, long lower) {
        Check.same("mean of " + lesson, b.mean(lesson, 0), upper);
        Check.same("mean, lower, of " + lesson, b.mean(lesson, 1), lower);
    }

    /** Eight lessons in a row, each over by so much in one of ten days, and one behind them. */
    private static String eight(int over) {
        StringBuilder text = new StringBuilder("walk 0;lesson 0 9 9 " + over + " 0 1 maybe 1;");
        for (int i = 1; i < 8; i++) {
            text.append("lesson ").append(9 * i).append(' ').append(9 * i + 9).append(" 9 " + over + " 0 1 all ").append(i - 1).append(" maybe 1;");
        }
        return text.append("lesson 72 81 9 0 0 1 all 7 maybe 1;").toString();
    }

    private static void chances() {
        Check.sentence("each LESSON with a MAYBE below 10 and above 0 (at most 8, the first of these; the others as 10)", () -> {
            MarshBells b = Check.told("lesson 0 9 1 5 0 1 maybe 10;lesson 0 9 1 5 0 1 maybe 0;" + "lesson 0 9 1 5 0 1 maybe 5;".repeat(10));
            dueChance(b, 0, 4, 1, 1);
            dueChance(b, 1, 0, 0, 1);
            for (int i = 2; i < 10; i++) {
                dueChance(b, i, 4, 1, 2);
            }
            dueChance(b, 10, 4, 1, 1);
            dueChance(b, 11, 4, 1, 1);
            dueMean(b, 11, 5, 1);
            dueMean(b, 9, 5, 2);
        });
        Check.sentence("runs OVER by so many tenths, else not at all, each for itself (a MAYBE of 0: never)", () -> {
            int[][] lowest = {{0, 1}, {1, 10}, {1, 5}, {3, 10}, {2, 5}, {1, 2}, {3, 5}, {7, 10}, {4, 5}, {9, 10}, {1, 1}};
            for (int maybe = 0; maybe <= 10; maybe++) {
                MarshBells b = Check.told("lesson 0 9 1 1 0 1 maybe " + maybe + ";rule 0-1;rule 60;");
                dueChance(b, 0, 0, lowest[maybe][0], lowest[maybe][1]);
                b.obey(1);
                dueChance(b, 0, 59, lowest[maybe][0], lowest[maybe][1]);
                b.obey(0);
                dueChance(b, 0, 0, 0, 1);
            }
            MarshBells each = Check.told(eight(1));
            dueChance(each, 8, 0, 100000000 - 43046721, 100000000);
            dueChance(each, 8, 7, 1, 100000000);
            dueChance(each, 8, 8, 0, 1);
            dueChance(each, 1, 1, 1, 100);
        });
        Check.sentence("LATE by more than so many minutes (0 to 999), as a fraction in lowest terms; how much it is LATE in the mean, likewise.", () -> {
            MarshBells b = Check.told("lesson 0 10 12 5 0 1 maybe 4;");
            dueChance(b, 0, 0, 1, 1);
            dueChance(b, 0, 1, 1, 1);
            dueChance(b, 0, 2, 2, 5);
            dueChance(b, 0, 6, 2, 5);
            dueChance(b, 0, 7, 0, 1);
            dueChance(b, 0, 999, 0, 1);
            dueMean(b, 0, 4, 1);
            dueMean(Check.told("lesson 0 10 10 0 0 1 maybe 5;"), 0, 0, 1);
            dueMean(Check.told("lesson 0 10 10 5 0 1 maybe 1;"), 0, 1, 2);
            dueMean(Check.told("lesson 0 10 10 7 0 1 maybe 3;"), 0, 21, 10);
            dueMean(Check.told(eight(1)), 8, 4, 5);
            dueMean(Check.told(eight(14)), 7, 56, 5);
        });
        Check.sentence("(In all else MAYBE isn't asked, but in terms.)", () -> {
            MarshBells b = Check.told("walk 0;lesson 0 10 10 4 0 1 maybe 0;lesson 10 20 10 0 0 2 all 0 maybe 0;");
            Check.same("day", b.day(0, 2), 4);
            Check.same("LOST", b.count(7), 12);
            Check.same("far", b.far(0, 1, 1), 2);
            Check.same("reaches", b.reaches(0, 1), 1);
            Check.same("slack", b.slack(0), 0);
            Check.same("gaps", b.gaps(2, 1, 0), 4);
            Check.same("bell", b.bell(0), 12);
            Check.same("harm", b.harm(0, 1), 4);
            Check.same("last", b.last(), 0);
            Check.same("fits", b.fits(0), 62);
            b.chance(1, 0, 0);
            Check.same("behind a chance", b.count(7), 12);
            b.mean(1, 0);
            Check.same("behind a mean", b.count(7), 12);
            b.term(1, 5, 0, 0);
            Check.same("behind a term", b.count(7), 12);
        });
    }

    private static void chanceCalls() {
        Check.sentence("the upper part (what 0), the lower one (1). NoSuchElementException: also another what. IllegalArgumentException (behind that): how many.", () -> {
            MarshBells b = Check.told(ROW);
            Check.missing("chance what 2", () -> b.chance(0, 0, 2));
            for (int what : NO_INDEX) {
                Check.missing("chance what " + what, () -> b.chance(0, 0, what));
            }
            for (int late : new int[] {1000, -1, Integer.MIN_VALUE, Integer.MAX_VALUE}) {
                Check.illegal("chance " + late, () -> b.chance(0, late, 0));
                Check.missing("what is ahead", () -> b.chance(0, late, 2));
                Check.missing("LESSON is ahead", () -> b.chance(3, late, 0));
            }
            dueChance(b, 0, 999, 0, 1);
            dueChance(b, 0, 0, 1, 1);
        });
        Check.sentence("in the mean: the upper part (what 0), the lower one (1). NoSuchElementException: also another what.", () -> {
            MarshBells b = Check.told(ROW);
            Check.missing("mean what 2", () -> b.mean(0, 2));
            for (int what : NO_INDEX) {
                Check.missing("mean what " + what, () -> b.mean(0, what));
            }
        });
    }

    private static void swaps() {
        Check.sentence("of all couples of LESSONS (a below b) that by whose OVERS being swapped LOST is least, if that is less than now (of like ones the first); none.", () -> {
            MarshBells b = Check.told("lesson 0 10 1 0 0 50;".repeat(10) + "lesson 0 10 1 9 0 50;lesson 0 10 1 0 0 1;");
            Check.same("the last couple", b.swap(0), 1011);
            Check.same("LOST then", b.swap(1), 9);
            MarshBells like = Check.told("lesson 0 10 1 9 0 5;lesson 0 10 1 0 0 1;lesson 0 10 1 0 0 1;");
            Check.same("the first of like ones", like.swap(0), 1);
            MarshBells equal = Check.told("lesson 0 10 1 9 0 5;lesson 0 10 1 0 0 5;");
            Check.same("as much as now is none", equal.swap(0), NONE);
            Check.same("as much as now is none, LOST", equal.swap(1), NONE);
            Check.same("more than now is none", Check.told("lesson 0 10 1 9 0 1;lesson 0 10 1 0 0 5;").swap(0), NONE);
            Check.same("one alone", Check.told("lesson 0 10 1 9 0 1;").swap(0), NONE);
            Check.same("without LESSONS", new MarshBells().swap(1), NONE);
            Check.same("to LOST of 0", Check.told("lesson 0 10 1 9 0 1;lesson 0 20 1 0 0 1;rule over*(lesson=0);").swap(1), NONE);
            Check.same("by a RULE", obeying("lesson 0 10 1 9 0 1;lesson 0 20 1 0 0 1;rule over*(lesson=0);", 0).swap(1), 0);
        });
        Check.sentence("100 by a and b (what 0), LOST then (1); NONE: none. NoSuchElementException: another what.", () -> {
            MarshBells b = Check.told(ROW);
            Check.missing("swap what 2", () -> b.swap(2));
            Check.missing("pair what 2", () -> b.pair(2));
            for (int what : NO_INDEX) {
                Check.missing("swap what " + what, () -> b.swap(what));
                Check.missing("pair what " + what, () -> b.pair(what));
            }
        });
    }

    private static void roomsAndLimits() {
        Check.sentence("THE ROOM for a LESSON by which LOST is least (of like ones the least).", () -> {
            String from = "walk 1;stair 1;lesson 0 10 10 0 ";
            for (int room = 0; room < 10; room++) {
                MarshBells b = Check.told(from + room + " 3;lesson 10 20 10 0 0 2 all 0;");
                Check.same("beside the other in " + room, b.room(1, 0), room);
                Check.same("LOST then", b.room(1, 1), 0);
            }
            Check.same("all alike: the least", Check.told("lesson 0 10 10 0 7 1;").room(0, 0), 0);
            MarshBells above = Check.told("walk 0;lesson 0 10 10 0 7 3;lesson 10 20 10 0 2 2 all 0;");
            Check.same("all above alike: the least of them", above.room(1, 0), 5);
            Check.same("nothing stays", above.lesson(1, 4), 2);
            MarshBells less = obeying("walk 0;lesson 0 10 10 0 0 1;rule 20-room;", 0);
            Check.same("by a RULE the greatest", less.room(0, 0), 9);
            Check.same("LOST by it", less.room(0, 1), 11);
        });
        Check.sentence("THE ROOM (what 0), LOST then (1). NoSuchElementException: also another what.", () -> {
            MarshBells b = Check.told(ROW);
            Check.missing("room what 2", () -> b.room(0, 2));
            for (int what : NO_INDEX) {
                Check.missing("room what " + what, () -> b.room(0, what));
            }
        });
        Check.sentence("the LIMIT (0 to 99) of a LESSON by which LOST is least (likewise).", () -> {
            MarshBells b = Check.told(ROW);
            Check.same("not to wait at all", b.limit(1, 0), 0);
            Check.same("LOST then", b.limit(1, 1), 4);
            Check.same("alike: the least", b.limit(0, 0), 0);
            MarshBells longest = obeying("walk 0;lesson 0 150 9 0 0 1;lesson 0 220 1 0 3 2 all 0;rule lesson*(120-late);", 0);
            Check.same("99", longest.limit(1, 0), 99);
            Check.same("LOST by 99", longest.limit(1, 1), 2 * 21);
            MarshBells middle = obeying("walk 0;lesson 0 99 9 0 0 1;lesson 0 120 1 0 3 2 all 0;rule lesson*(50-late)*(50-late);", 0);
            Check.same("between", middle.limit(1, 0), 50);
            Check.same("nothing stays", middle.lesson(1, 9), 99);
        });
        Check.sentence("HOW LONG (what 0), LOST then (1). NoSuchElementException: also another what.", () -> {
            MarshBells b = Check.told(ROW);
            Check.missing("limit what 2", () -> b.limit(0, 2));
            for (int what : NO_INDEX) {
                Check.missing("limit what " + what, () -> b.limit(0, what));
            }
        });
    }

    private static void last() {
        Check.sentence("the LESSON whose OVER being 0 LOST would be least by (of like ones the least; none without LESSONS).", () -> {
            Check.same("none", new MarshBells().last(), NONE);
            Check.same("none in an empty house", Check.told("walk 1;").last(), NONE);
            Check.same("one", Check.told("lesson 0 10 1 0 0 1;").last(), 0);
            Check.same("of like ones", Check.told("lesson 0 10 1 3 0 2;lesson 0 10 1 6 0 1;").last(), 0);
            Check.same("the last of twelve", Check.told("lesson 0 10 1 3 0 2;".repeat(11) + "lesson 0 10 1 4 0 2;").last(), 11);
            Check.same("by those who wait for it", Check.told("lesson 0 10 1 9 0 1;lesson 0 10 10 4 0 1;"
                + "lesson 10 20 10 0 0 2 all 1;lesson 20 30 10 0 0 3 all 2;").last(), 1);
            MarshBells b = obeying("lesson 0 10 1 9 0 1;lesson 0 10 1 3 0 1;rule 20-over;", 0);
            Check.same("by a RULE", b.last(), 1);
            MarshBells nil = obeying("lesson 0 10 1 5 0 1;lesson 0 10 1 5 0 2;rule 9-9*(over=0);", 0);
            Check.same("0 itself", nil.last(), 1);
            Check.same("0 itself, of two", nil.pair(1), 0);
            Check.same("0 itself, of a bell", nil.bell(0), 27);
        });
    }

    private static void rules() {
        Check.sentence("LOST by a RULE, or by none", () -> {
            MarshBells b = obeying("lesson 0 10 1 5 0 2;rule 1;rule 2;rule 3;rule 0-1;", 2);
            int[] want = {10, 2, 4, 6, 0};
            for (int rule = NONE; rule < 4; rule++) {
                Check.same("by " + rule, b.compare(rule), want[rule + 1]);
            }
            Check.same("in force as before", b.count(2), 2);
            Check.same("no ACT more", b.count(5), 1);
        });
        Check.sentence("LOST by a RULE (NONE: by none). NoSuchElementException: no such RULE.", () -> {
            MarshBells b = Check.told("lesson 0 10 1 5 0 2;rule 1;rule 2;");
            Check.same("the last", b.compare(1), 4);
            Check.same("by none", b.compare(NONE), 10);
            for (int rule : new int[] {2, 3, 4, -2, Integer.MIN_VALUE, Integer.MAX_VALUE}) {
                Check.missing("compare " + rule, () -> b.compare(rule));
            }
            Check.missing("without any", () -> new MarshBells().compare(0));
            Check.same("by none without any", new MarshBells().compare(NONE), 0);
            Check.same("no STATUS", b.count(10), 0);
        });
        Check.sentence("THE BEST (of like ones none ahead of RULES in their order).", () -> {
            String one = "lesson 0 10 1 5 0 2;";
            Check.same("as none: none", Check.told(one + "rule 5;rule over;").best(), NONE);
            Check.same("as one ahead of it", Check.told(one + "rule 4;rule 3;rule 3;").best(), 1);
            Check.same("the fourth", Check.told(one + "rule 4;rule 3;rule 2;rule 1;").best(), 3);
            Check.same("worse than none", Check.told(one + "rule 6;").best(), NONE);
            Check.same("whatever is in force", obeying(one + "rule 6;rule 4;", 0).best(), 1);
        });
        Check.sentence("THE BEST; NONE: none is.", () -> {
            Check.same("without RULES", Check.told("lesson 0 10 1 5 0 2;").best(), NONE);
            Check.same("without LESSONS", Check.told("rule 1;").best(), NONE);
            Check.same("without anything", new MarshBells().best(), NONE);
        });
    }

    private static void bell() {
        Check.sentence("LOST now less LOST, were each OVER no more than so many minutes (0 to 60).", () -> {
            MarshBells b = Check.told("lesson 0 10 1 60 0 1;lesson 0 10 1 59 0 10;lesson 0 10 1 0 0 99;");
            Check.same("60", b.bell(60), 0);
            Check.same("59", b.bell(59), 1);
            Check.same("58", b.bell(58), 2 + 10);
            Check.same("1", b.bell(1), 59 + 580);
            Check.same("0", b.bell(0), 60 + 590);
            Check.same("by a RULE it may be below 0", Check.ruled("60-over").bell(0), -7 * 8);
            Check.same("a RULE that doesn't ask", Check.ruled("5").bell(0), 0);
            MarshBells stair = Check.told("walk 0;stair 1;lesson 0 10 10 4 0 5;lesson 10 20 10 0 9 2 all 0;");
            Check.same("over a slow STAIR", stair.bell(0), 5 * 4 + 2 * 9 - 2 * 5);
            Check.same("over a slow STAIR, harm", stair.harm(0, 1), 4);
            Check.same("without LESSONS", new MarshBells().bell(0), 0);
        });
        Check.sentence("IllegalArgumentException: minutes are not 0 to 60.", () -> {
            MarshBells b = Check.told(ROW);
            for (int minutes : new int[] {61, -1, Integer.MIN_VALUE, Integer.MAX_VALUE}) {
                Check.illegal("bell " + minutes, () -> b.bell(minutes));
            }
            Check.illegal("of a new object", () -> new MarshBells().bell(61));
        });
    }

    private static void nothingStays() {
        Check.sentence("Nothing is promised beyond the answers and state changes described above", () -> {
            String lessons = "walk 1;stair 3;lesson 0 10 10 4 0 5 maybe 3;lesson 0 10 10 7 6 2 maybe 0;lesson 10 20 10 3 1 4 all 0 1;"
                + "lesson 12 25 10 1 7 3 some 1 1 0 gap 2;";
            for (String rules : new String[] {"rule over+late;", "rule 0;rule over;", "rule 60;rule 59;"}) {
                for (int x = 0; x < 32; x++) {
                    MarshBells b = seeing(lessons + rules);
                    String before = Check.all(b);
                    ask(b, x);
                    Check.same("nothing is another behind call " + x, Check.all(b).equals(before), true);
                    for (int y = 0; y < 32; y++) {
                        MarshBells alone = seeing(lessons + rules);
                        MarshBells behind = seeing(lessons + rules);
                        ask(behind, x);
                        Check.same("call " + y + " behind call " + x, ask(behind, y), ask(alone, y));
                    }
                }
            }
        });
    }

    private static MarshBells seeing(String text) {
        MarshBells b = obeying(text, 0);
        b.see(0, 4);
        return b;
    }

    private static long ask(MarshBells b, int call) {
        switch (call) {
            case 0: return b.far(0, 120, 0);
            case 1: return b.far(1, 9, 1);
            case 2: return b.reaches(0, 2);
            case 3: return b.slack(0);
            case 4: return b.gaps(15, 3, 2);
            case 5: return b.gaps(12, 2, 0);
            case 6: return b.chance(2, 5, 0);
            case 7: return b.mean(3, 0);
            case 8: return b.swap(0);
            case 9: return b.swap(1);
            case 10: return b.room(2, 0);
            case 11: return b.room(3, 1);
            case 12: return b.limit(2, 0);
            case 13: return b.limit(3, 1);
            case 14: return b.last();
            case 15: return b.compare(NONE);
            case 16: return b.best();
            case 17: return b.bell(2);
            case 18: return b.fits(0);
            case 19: return b.streams();
            case 20: return b.term(3, 7, 2, 0);
            case 21: return b.on(18, 0);
            case 22: return b.on(18, 1);
            case 23: return b.clash(0);
            case 24: return b.busiest(1);
            case 25: return b.idle();
            case 26: return b.shift(2, 0);
            case 27: return b.shift(1, 1);
            case 28: return b.harm(0, 3);
            case 29: return b.pair(0);
            case 30: return b.pause(5, 0);
            default: return b.pause(2, 1);
        }
    }
}
