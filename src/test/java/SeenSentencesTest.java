/** The document's parts 5 and 6, promises 26 to 38: each sentence with an edge has a test of its own. */
public final class SeenSentencesTest {
    private static final int NONE = MarshBells.NONE;
    private static final int[] NO_INDEX = {-1, Integer.MIN_VALUE, Integer.MAX_VALUE};

    /** Each lesson waits for the one ahead of it: ends 14, 24, 34, each late by 4. */
    private static final String ROW = "lesson 0 10 10 4 0 1;lesson 10 20 10 0 0 2 all 0;lesson 20 30 10 0 0 3 all 1;";

    /** One way up in the minutes 10 to 12, one down in 12 to 14. */
    private static final String STAIR = "walk 0;stair 1;lesson 0 10 1 0 0 3;lesson 0 12 1 0 9 3;"
        + "lesson 20 30 1 0 9 1 all 0;lesson 20 30 1 0 0 1 all 1;";

    public static void main(String[] args) {
        seen();
        fits();
        crossing();
        terms();
        termCalls();
        ons();
        clashes();
        onTheStair();
        idle();
        shifts();
        harm();
        pairs();
        pauses();
        nothingStays();
        Check.end();
    }

    private static MarshBells obeying(String text, int rule) {
        MarshBells b = Check.told(text);
        Check.same("obey", b.obey(rule), true);
        return b;
    }

    private static void seen() {
        Check.sentence("SEEN (at most 8): a LESSON was LATE by so much (0 to 999).", () -> {
            MarshBells b = Check.told(ROW);
            Check.same("0", b.see(0, 0), 1);
            Check.same("999", b.see(2, 999), 2);
            for (int n = 3; n <= 8; n++) {
                Check.same("one more", b.see(1, n), n);
            }
            Check.same("a ninth", b.see(1, 9), NONE);
            Check.same("8 still", b.count(6), 8);
        });
        Check.sentence("SEEN: how many are. NONE (STATUS 2): there are 8, it is not 0 to 999.", () -> {
            MarshBells b = Check.told(ROW);
            for (int late : new int[] {1000, -1, Integer.MIN_VALUE, Integer.MAX_VALUE}) {
                Check.same("see " + late, b.see(0, late), NONE);
            }
            Check.same("STATUS 2", b.count(11), 4);
            Check.same("none is SEEN", b.count(6), 0);
            Check.same("all fit still", b.fits(0), 93);
            for (int n = 1; n <= 8; n++) {
                b.see(0, 4);
            }
            Check.same("there are 8", b.see(0, 4), NONE);
            Check.same("STATUS 2 then", b.count(11), 5);
            Check.same("both at once", b.see(0, 1000), NONE);
            Check.same("is one call", b.count(11), 6);
        });
        Check.sentence("it is not 0 to 999. NoSuchElementException (ahead): no such LESSON.", () -> {
            MarshBells b = Check.told(ROW);
            Check.missing("ahead of how LATE", () -> b.see(3, 1000));
            for (int n = 0; n < 8; n++) {
                b.see(0, 0);
            }
            Check.missing("ahead of 8", () -> b.see(3, 0));
            Check.missing("below 0", () -> b.see(-1, 0));
            Check.same("no STATUS", b.count(11), 0);
        });
        Check.sentence("All that is SEEN is forgotten.", () -> {
            MarshBells b = Check.told(ROW);
            b.forget();
            Check.same("nothing was", b.count(6), 0);
            for (int n = 0; n < 8; n++) {
                b.see(0, 999);
            }
            b.forget();
            Check.same("none is left", b.count(6), 0);
            Check.same("all fit", b.fits(0), 93);
            Check.same("room again", b.see(0, 6), 1);
            Check.same("the new one alone", b.fits(0), 1);
            Check.same("no STATUS, no ACT", b.count(11) + b.count(5), 0);
        });
    }

    private static void dueFits(String name, MarshBells b, int many, int first, int surely) {
        Check.same(name + ": how many", b.fits(0), many);
        Check.same(name + ": the first", b.fits(1), first);
        Check.same(name + ": surely", b.fits(2), surely);
    }

    private static void fits() {
        Check.sentence("LESSONS and minutes (0 to 30) such that, were its OVER so much, all SEEN would be so: how many", () -> {
            int[] minutes = {0, 1, 30};
            for (int late : minutes) {
                MarshBells b = Check.told("lesson 0 10 10 60 0 1;");
                b.see(0, late);
                dueFits("by " + late, b, 1, late, 0);
            }
            MarshBells b = Check.told("lesson 0 10 10 60 0 1;");
            b.see(0, 31);
            dueFits("31 is too much", b, 0, NONE, NONE);
            b.forget();
            b.see(0, 60);
            dueFits("60 as it is, too", b, 0, NONE, NONE);
            MarshBells all = Check.told(ROW);
            all.see(0, 4);
            dueFits("one SEEN", all, 1 + 31 + 31, 4, NONE);
            all.see(1, 4);
            dueFits("two SEEN", all, 1 + 1 + 31, 4, NONE);
            all.see(2, 4);
            dueFits("all SEEN", all, 3, 4, NONE);
            all.see(2, 5);
            dueFits("two of one that are not alike", all, 0, NONE, NONE);
        });
        Check.sentence("the first (100 by the LESSON and minutes); none.", () -> {
            MarshBells twelve = Check.told("lesson 0 10 10 1 0 1;".repeat(12));
            twelve.see(11, 30);
            dueFits("the last of all", twelve, 1, 1130, 11);
            twelve.forget();
            twelve.see(11, 0);
            dueFits("the last LESSON by 0 minutes", twelve, 1, 1100, 11);
            MarshBells row = Check.told(ROW);
            row.see(0, 4);
            row.see(1, 6);
            dueFits("not the first", row, 1, 102, 1);
        });
        Check.sentence("SURELY: the LESSON, if it is the same in all that fit; none.", () -> {
            dueFits("one LESSON", Check.told("lesson 0 10 10 1 0 1;"), 31, 0, 0);
            dueFits("nothing SEEN", Check.told(ROW), 93, 0, NONE);
            dueFits("no LESSON", new MarshBells(), 0, NONE, NONE);
            MarshBells loose = Check.told("walk 0;lesson 0 10 10 4 0 1;lesson 20 30 10 2 0 2 all 0;");
            loose.see(1, 3);
            dueFits("two", loose, 2, 11, NONE);
            loose.see(0, 11);
            dueFits("one", loose, 1, 11, 0);
            MarshBells many = obeying("lesson 0 10 10 4 0 1;lesson 0 10 10 4 0 1;rule 3+(over<9)*(lesson=1);", 0);
            many.see(1, 3);
            dueFits("many of one", many, 22, 109, 1);
        });
        Check.sentence("FITS: how many (what 0), the first (1), SURELY (2); NONE of 1, 2: none. NoSuchElementException: another what.", () -> {
            MarshBells b = Check.told(ROW);
            Check.missing("3", () -> b.fits(3));
            for (int what : NO_INDEX) {
                Check.missing("fits " + what, () -> b.fits(what));
            }
        });
    }

    private static void crossing() {
        Check.sentence("each WAY from a LESSON to one that WAITS for it takes as many minutes as it is long, from the END on", () -> {
            MarshBells b = Check.told(STAIR);
            Check.same("in 12", b.streams(), 1);
            b.become(1, 0, 1);
            Check.same("one behind the other", b.streams(), 0);
            b.undo();
            b.become(0, 0, 4);
            Check.same("in 14, the one that is told later being sooner", b.streams(), 1);
            b.become(0, 0, 5);
            Check.same("that one gone when the other starts", b.streams(), 0);
            String longer = "walk 1;stair 1;lesson 0 10 1 0 0 3;lesson 0 21 1 0 9 3;lesson 50 60 1 0 9 1 all 0;lesson 50 60 1 0 0 1 all 1;";
            MarshBells walked = Check.told(longer);
            Check.same("with nine rooms to walk", walked.streams(), 1);
            walked.become(1, 0, 1);
            Check.same("and no more", walked.streams(), 0);
            walked.become(0, 0, 1);
            Check.same("from the END on", walked.streams(), 1);
            // GAP makes nobody's way shorter, and a lesson that doesn't wait has them come all the same.
            MarshBells gap = Check.told(STAIR.replace("all 0", "all 0 limit 0 gap 30"));
            Check.same("whatever GAP and LIMIT", gap.streams(), 1);
        });
        Check.sentence("two WAYS between a ROOM below 5 and one that isn't, one of them up (to the greater ROOM), one down", () -> {
            int[][] rooms = {{4, 5, 5, 4, 1}, {0, 5, 5, 0, 1}, {4, 5, 4, 5, 0}, {5, 4, 5, 4, 0}, {3, 4, 5, 4, 0}, {4, 5, 6, 5, 0},
                {3, 4, 4, 3, 0}, {5, 6, 6, 5, 0}, {9, 0, 0, 9, 1}};
            for (int[] r : rooms) {
                String text = "walk 1;stair 1;lesson 0 10 1 0 " + r[0] + " 3;lesson 0 10 1 0 " + r[2] + " 3;lesson 50 60 1 0 "
                    + r[1] + " 1 all 0;lesson 50 60 1 0 " + r[3] + " 1 all 1;";
                Check.same(text, Check.told(text).streams(), r[4]);
            }
        });
        Check.sentence("that have a minute in common: how many such couples there are.", () -> {
            MarshBells b = Check.told("walk 0;stair 9;lesson 0 10 1 0 0 9;lesson 0 10 1 0 9 9;lesson 20 30 1 0 9 1 all 0;"
                + "lesson 20 30 1 0 8 1 all 0;lesson 20 30 1 0 0 1 all 1;lesson 20 30 1 0 1 1 all 1;lesson 20 30 1 0 2 1 all 1;");
            Check.same("two up, three down", b.streams(), 6);
            b.become(1, 0, 1);
            Check.same("a minute later", b.streams(), 0);
            StringBuilder full = new StringBuilder("walk 0;stair 1;");
            for (int i = 0; i < 12; i++) {
                full.append("lesson 0 10 1 0 ").append(i % 2 * 9).append(" 9").append(i == 0 ? "" : " all");
                for (int k = 1; k <= 6 && k <= i; k++) {
                    full.append(' ').append(i - k);
                }
                full.append(i == 0 ? ";" : " limit 0;");
            }
            // Of the ways to lesson i every other one: 1 1 2 2 3 3 3 .. 3, 27 in all, 15 of them up.
            MarshBells most = Check.told(full.toString());
            Check.same("of very many", most.streams(), 15 * 12);
            Check.same("people of very many", most.on(10, 1), 27 * 9);
            Check.same("the busiest of very many", most.busiest(0), 27 * 9);
        });
        Check.sentence("CROSSING: how many couples of WAYS.", () -> {
            Check.same("none", Check.told(ROW).streams(), 0);
            Check.same("one way", Check.told("lesson 0 10 1 0 0 1;lesson 10 20 1 0 9 1 all 0;").streams(), 0);
            Check.same("without LESSONS", new MarshBells().streams(), 0);
        });
    }

    private static void terms() {
        Check.sentence("n DAYS (0 to 60)", () -> {
            MarshBells b = Check.told(ROW);
            for (int what = 0; what < 3; what++) {
                Check.same("no day, " + what, b.term(1, 0, 0, what), 0);
            }
            Check.same("one: LOST", b.term(1, 1, 0, 0), 24);
            Check.same("sixty: LOST", b.term(1, 60, 0, 0), 60 * 24);
            Check.same("sixty: the most", b.term(1, 60, 0, 1), 24);
            Check.same("sixty: LATE", b.term(1, 60, 0, 2), 60);
        });
        // Draws of 10 by the seed 1: 8 8 3 5 1 7 0 9 2 6.
        Check.sentence("each DAY each LESSON, in order, whose MAYBE isn't 10 runs OVER if a DRAW of 10 is below it", () -> {
            String over = "lesson 0 10 1 5 0 1 maybe ";
            Check.same("8 is not below 8", Check.told(over + "8;").term(1, 1, 0, 0), 0);
            Check.same("8 is below 9", Check.told(over + "9;").term(1, 1, 0, 0), 5);
            Check.same("0 is not below 0", Check.told(over + "0;").term(0, 1, 0, 0), 0);
            Check.same("0 is below 1", Check.told(over + "1;").term(0, 1, 0, 0), 5);
            Check.same("a MAYBE of 10 takes no draw", Check.told(over + "10;" + over + "10;" + over + "4;").term(1, 1, 2, 2), 0);
            Check.same("a MAYBE of 0 takes one", Check.told(over + "0;" + over + "0;" + over + "4;").term(1, 1, 2, 2), 1);
            Check.same("day by day", Check.told(over + "4;").term(1, 10, 0, 2), 4);
            Check.same("the seed goes on from day to day", Check.told(over + "4;" + over + "4;").term(1, 5, 0, 2), 4);
            Check.same("and from LESSON to LESSON", Check.told(over + "4;" + over + "4;").term(1, 5, 1, 2), 0);
            MarshBells ten = Check.told((over + "3;").repeat(10));
            int[] runs = {0, 0, 0, 0, 1, 0, 1, 0, 1, 0};
            for (int i = 0; i < 10; i++) {
                Check.same("more than eight, too: " + i, ten.term(1, 1, i, 2), runs[i]);
            }
            MarshBells ruled = obeying(over + "8;rule 60;", 0);
            Check.same("whatever the RULE", ruled.term(1, 1, 0, 0), 0);
            MarshBells ahead = Check.told("walk 0;lesson 0 10 10 5 0 1 maybe 4;lesson 10 20 10 0 0 1 all 0;");
            Check.same("those who wait are LATE by it", ahead.term(1, 3, 1, 2), 1);
        });
        Check.sentence("LOST of all together; the most on one; on how many a LESSON is LATE.", () -> {
            MarshBells b = Check.told("lesson 0 10 1 5 0 2 maybe 4;lesson 0 10 1 3 0 1 maybe 9;");
            // Runs of the first and second: 8 8, 3 5, 1 7, 0 9, 2 6.
            Check.same("LOST", b.term(1, 5, 0, 0), 3 + 13 + 13 + 10 + 13);
            Check.same("the most", b.term(1, 5, 0, 1), 13);
            Check.same("the most of one day", b.term(1, 1, 0, 1), 3);
            Check.same("LATE, the first", b.term(1, 5, 0, 2), 4);
            Check.same("LATE, the second", b.term(1, 5, 1, 2), 4);
            Check.same("LATE by LEAST alone", Check.told("lesson 0 10 11 5 0 1 maybe 0;").term(1, 7, 0, 2), 7);
            Check.same("by 0 it isn't LATE", Check.told("lesson 0 10 10 0 0 1;").term(1, 7, 0, 2), 0);
            Check.same("LOST of others, too", b.term(1, 1, 0, 0), b.term(1, 1, 1, 0));
        });
        Check.sentence("A seed becomes itself times 1103515245 and 12345 (an int that wraps); a DRAW of n is its bits 16 to 30 MOD n then.", () -> {
            int[][] firsts = {{0, 0}, {1, 8}, {-1, 9}, {Integer.MIN_VALUE, 0}, {Integer.MAX_VALUE, 9}};
            for (int[] f : firsts) {
                for (int maybe = 1; maybe < 10; maybe++) {
                    MarshBells b = Check.told("lesson 0 10 1 5 0 1 maybe " + maybe + ";");
                    Check.same("seed " + f[0] + ", " + maybe, b.term(f[0], 1, 0, 2), f[1] < maybe ? 1 : 0);
                }
            }
            int[] draws = {8, 8, 3, 5, 1, 7, 0, 9, 2, 6};
            for (int maybe = 1; maybe < 10; maybe++) {
                MarshBells b = Check.told("lesson 0 10 1 5 0 1 maybe " + maybe + ";");
                int late = 0;
                for (int day = 0; day < 10; day++) {
                    late += draws[day] < maybe ? 1 : 0;
                    Check.same("days " + day, b.term(1, day + 1, 0, 2), late);
                }
            }
        });
    }

    private static void termCalls() {
        Check.sentence("on how many DAYS a LESSON is LATE (2). NoSuchElementException: also another what. IllegalArgumentException (behind that): n.", () -> {
            MarshBells b = Check.told(ROW);
            Check.missing("what 3", () -> b.term(1, 1, 0, 3));
            for (int wrong : NO_INDEX) {
                Check.missing("what " + wrong, () -> b.term(1, 1, 0, wrong));
                Check.illegal("days " + wrong, () -> b.term(1, wrong, 0, 0));
                Check.missing("what is ahead", () -> b.term(1, wrong, 0, 3));
                Check.missing("LESSON is ahead", () -> b.term(1, wrong, 3, 0));
                Check.missing("LESSON whatever is asked", () -> b.term(1, 1, wrong, 0));
            }
            Check.illegal("61", () -> b.term(1, 61, 0, 2));
        });
    }

    private static void ons() {
        Check.sentence("ON in a minute (0 to 4000) are LESSONS that have begun by it, and whose END is behind it.", () -> {
            MarshBells b = Check.told("lesson 0 10 1 2 0 1;lesson 5 20 1 0 0 1 all 0;lesson 0 1 1 0 0 1;");
            int[][] on = {{0, 0b101}, {1, 0b001}, {11, 0b001}, {12, 0b010}, {19, 0b010}, {20, 0}, {4000, 0}};
            for (int[] o : on) {
                Check.same("on in " + o[0], b.on(o[0], 0), o[1]);
            }
            MarshBells last = Check.told("lesson 0 5 1 0 0 1;".repeat(11) + "lesson 998 999 200 60 0 1;");
            Check.same("the last minute of the latest", last.on(998 + 200 + 60 - 1, 0), 1 << 11);
            Check.same("behind it", last.on(998 + 200 + 60, 0), 0);
            Check.same("without LESSONS", new MarshBells().on(0, 0), 0);
        });
        Check.sentence("PEOPLE on THE STAIR (1). NoSuchElementException: another what. IllegalArgumentException (behind that): no such minute.", () -> {
            MarshBells b = Check.told(STAIR);
            Check.missing("what 2", () -> b.on(0, 2));
            Check.illegal("4001", () -> b.on(4001, 0));
            for (int wrong : NO_INDEX) {
                Check.missing("on what " + wrong, () -> b.on(0, wrong));
                Check.illegal("on in " + wrong, () -> b.on(wrong, 1));
                Check.missing("what is ahead", () -> b.on(wrong, 2));
            }
            Check.same("4000", b.on(4000, 1), 0);
            Check.same("0", b.on(0, 1), 0);
        });
    }

    private static void clashes() {
        Check.sentence("couples of LESSONS in one ROOM of which a minute is ON both: how many; the first such minute of all; none.", () -> {
            MarshBells b = Check.told("lesson 0 10 1 0 3 1;lesson 10 20 1 0 3 1;lesson 15 16 1 0 4 1;");
            Check.same("one ends, one begins: none", b.clash(0), 0);
            Check.same("the first: none", b.clash(1), NONE);
            b.become(0, 0, 1);
            Check.same("a minute", b.clash(0), 1);
            Check.same("that minute", b.clash(1), 10);
            b.become(2, 2, 3);
            Check.same("two couples", b.clash(0), 2);
            Check.same("the first of all", b.clash(1), 10);
            b.become(0, 2, 9);
            Check.same("one in another ROOM", b.clash(0), 1);
            Check.same("the first then", b.clash(1), 15);
            Check.same("each couple of twelve", Check.told("lesson 0 10 1 0 3 1;".repeat(12)).clash(0), 66);
            Check.same("from minute 0", Check.told("lesson 0 10 1 0 3 1;".repeat(12)).clash(1), 0);
            MarshBells sooner = Check.told("lesson 20 30 1 0 3 1;lesson 10 20 1 0 3 1;");
            Check.same("the one that is told later being sooner", sooner.clash(0), 0);
            sooner.become(1, 0, 1);
            Check.same("by a minute", sooner.clash(1), 20);
            MarshBells back = Check.told("lesson 50 60 1 0 3 1;lesson 55 60 1 0 3 1;lesson 5 9 1 0 4 1;lesson 4 6 1 0 4 1;");
            Check.same("not the first couple", back.clash(1), 5);
            MarshBells late = Check.told("walk 0;lesson 0 20 1 0 3 1;lesson 5 30 1 0 3 1 all 0;");
            Check.same("one that begins later than FROM", late.clash(0), 0);
            late.become(1, 3, 14);
            Check.same("by LIMIT a minute sooner", late.clash(1), 19);
        });
        Check.sentence("CLASHES: how many (what 0), the first minute (1); NONE: none. NoSuchElementException: another what.", () -> {
            MarshBells b = Check.told(ROW);
            Check.missing("2", () -> b.clash(2));
            for (int what : NO_INDEX) {
                Check.missing("clash " + what, () -> b.clash(what));
            }
            Check.same("without LESSONS", new MarshBells().clash(0), 0);
            Check.same("none without LESSONS", new MarshBells().clash(1), NONE);
        });
    }

    private static void onTheStair() {
        Check.sentence("PEOPLE of all LESSONS whose WAYS over it have that minute (as often as they have such WAYS): how many", () -> {
            MarshBells b = Check.told(STAIR);
            int[][] people = {{9, 0}, {10, 3}, {11, 3}, {12, 6}, {13, 3}, {14, 3}, {15, 0}};
            for (int[] p : people) {
                Check.same("in " + p[0], b.on(p[0], 1), p[1]);
            }
            Check.same("couples of ways", b.streams(), 1);
            b.become(3, 2, 9);
            Check.same("one way less: people", b.on(13, 1), 0);
            Check.same("one way less: couples", b.streams(), 0);
            Check.same("one way less: the most", b.busiest(0), 3);
            Check.same("one way less: in", b.busiest(1), 10);
            b.become(2, 2, 4);
            Check.same("no way is left: people", b.on(10, 1), 0);
            Check.same("no way is left: in", b.busiest(1), NONE);
            MarshBells twice = Check.told("walk 0;lesson 0 10 1 0 0 99;lesson 20 30 1 0 9 1 all 0;lesson 20 30 1 0 8 1 all 0;"
                + "lesson 20 30 1 0 4 1 all 0;");
            Check.same("as often", twice.on(10, 1), 198);
            Check.same("one minute", twice.on(11, 1), 0);
            MarshBells floor = Check.told("walk 9;lesson 0 10 1 0 0 99;lesson 20 30 1 0 4 1 all 0;lesson 20 30 1 0 9 1;"
                + "lesson 20 90 1 0 5 1 all 2;");
            for (int minute : new int[] {10, 20, 30, 40}) {
                Check.same("ways that don't lead over it, " + minute, floor.on(minute, 1), 0);
            }
            Check.same("nor is it busy", floor.busiest(0), 0);
            Check.same("in no minute", floor.busiest(1), NONE);
            MarshBells walked = Check.told("walk 2;stair 5;lesson 0 10 1 0 4 6;lesson 20 30 1 0 5 1 all 0;");
            Check.same("with the walk", walked.on(13, 1), 6);
            Check.same("and no longer", walked.on(14, 1), 0);
        });
        Check.sentence("THE BUSIEST: the most, and the first minute in which they are so many (none, if there are no such WAYS).", () -> {
            MarshBells b = Check.told(STAIR);
            Check.same("the most", b.busiest(0), 6);
            Check.same("in", b.busiest(1), 12);
            b.become(1, 0, 1);
            Check.same("alike: the most", b.busiest(0), 3);
            Check.same("alike: the first", b.busiest(1), 10);
            b.become(0, 0, 30);
            Check.same("alike: the first, though told later", b.busiest(1), 13);
            MarshBells one = Check.told("walk 0;lesson 0 10 1 0 0 1;lesson 10 30 1 0 5 1 all 0;");
            Check.same("one alone", one.busiest(0), 1);
            Check.same("one alone in", one.busiest(1), 10);
            MarshBells zero = Check.told("walk 0;lesson 0 1 1 0 0 99;lesson 1 30 1 0 5 1 all 0;");
            Check.same("the first that can be", zero.busiest(1), 1);
            MarshBells late = Check.told("walk 0;lesson 998 999 200 60 0 99;lesson 1 30 1 0 5 1 all 0;");
            Check.same("a late one", late.busiest(1), 1258);
        });
        Check.sentence("THE BUSIEST: the most (what 0; 0 without), the minute (1); NONE: none. NoSuchElementException: another what.", () -> {
            MarshBells below = Check.told(ROW);
            Check.same("the most without", below.busiest(0), 0);
            Check.same("the minute without", below.busiest(1), NONE);
            Check.same("the most without LESSONS", new MarshBells().busiest(0), 0);
            Check.same("the minute without LESSONS", new MarshBells().busiest(1), NONE);
            Check.missing("2", () -> below.busiest(2));
            for (int what : NO_INDEX) {
                Check.missing("busiest " + what, () -> below.busiest(what));
            }
        });
    }

    private static void idle() {
        Check.sentence("PEOPLE (of that one) by how many minutes they are there ahead of its beginning (0, if it has begun by then; GAP counts), together.", () -> {
            String two = "walk 0;lesson 0 10 1 0 0 3;lesson 0 15 1 0 0 5;";
            String[] lines = {"lesson 16 30 1 0 0 7 all 0 1;", "lesson 15 30 1 0 0 7 all 0 1;", "lesson 5 30 1 0 0 7 all 0 1;",
                "lesson 5 30 1 0 0 7 all 0 1 gap 2;", "lesson 15 30 1 0 0 7 all 0 1 gap 2;", "lesson 5 30 1 0 0 7 some 1 0 1;",
                "lesson 5 30 1 0 0 7 all 0 1 limit 0;", "lesson 5 30 1 0 0 7 all 0 1 limit 6;", "lesson 5 30 1 0 0 7;",
                "lesson 15 30 1 0 0 7 all 1;lesson 12 30 1 0 0 7 all 0;", "lesson 20 30 1 0 9 7 all 0 gap 30;"};
            int[] want = {3 * 6 + 5, 3 * 5, 3 * 5, 3 * 5, 3 * 7 + 5 * 2, 0, 0, 3, 0, 3 * 2, 3 * (10 - 1 + 30)};
            for (int i = 0; i < lines.length; i++) {
                Check.same(lines[i], Check.told(two + lines[i]).idle(), want[i]);
            }
            Check.same("without LESSONS", new MarshBells().idle(), 0);
        });
    }

    private static void shifts() {
        Check.sentence("FROM and TO of it both -20 to 20 minutes later (FROM 0, TO 999 still, else not)", () -> {
            int[][] sooner = {{0, 0}, {1, -1}, {19, -19}, {20, -20}, {21, -20}, {500, -20}};
            for (int[] s : sooner) {
                String text = "lesson " + s[0] + " 600 1 3 0 1;";
                Check.same(text, Check.told(text).shift(0, 0), s[1]);
            }
            // Late by 60 by another one, less by each minute that it is shifted.
            int[][] later = {{978, 20}, {979, 20}, {980, 19}, {998, 1}, {999, 0}};
            for (int[] l : later) {
                String text = "walk 0;lesson 940 950 10 60 0 1;lesson 950 " + l[0] + " " + (l[0] - 950) + " 0 0 1 all 0;";
                MarshBells b = Check.told(text);
                Check.same(text, b.shift(1, 0), l[1]);
                Check.same("LOST: " + text, b.shift(1, 1), 60 + 60 - l[1]);
                Check.same("nothing stays", b.lesson(1, 0) + b.lesson(1, 1), 950 + l[0]);
            }
        });
        Check.sentence("that by which LOST is least, of like ones the least shift.", () -> {
            Check.same("all alike", Check.told("lesson 50 60 1 3 0 1;").shift(0, 0), -20);
            Check.same("all alike: LOST", Check.told("lesson 50 60 1 3 0 1;").shift(0, 1), 3);
            MarshBells b = Check.told("walk 0;lesson 40 50 1 7 0 1;lesson 50 60 10 0 0 1 all 0;");
            Check.same("as far as it needs", b.shift(1, 0), 7);
            Check.same("LOST then", b.shift(1, 1), 7);
            Check.same("the one ahead", b.shift(0, 0), -20);
            Check.same("LOST of the one ahead", b.shift(0, 1), 7);
            MarshBells ruled = obeying("lesson 50 60 1 3 0 1;rule (clock-50)*(clock-50);", 0);
            Check.same("not at all, if that is best", ruled.shift(0, 0), 0);
        });
        Check.sentence("TO SHIFT: by how much (what 0), LOST then (1). NoSuchElementException: also another what.", () -> {
            MarshBells b = Check.told(ROW);
            Check.missing("2", () -> b.shift(0, 2));
            for (int what : NO_INDEX) {
                Check.missing("shift what " + what, () -> b.shift(0, what));
            }
        });
    }

    private static void harm() {
        Check.sentence("how much less LATE that were, were the LESSON's OVER 0 (below 0: more)", () -> {
            MarshBells b = Check.told(ROW);
            Check.same("to one that waits", b.harm(0, 1), 4);
            Check.same("beyond it", b.harm(0, 2), 4);
            Check.same("to itself", b.harm(0, 0), 4);
            Check.same("to one ahead of it", b.harm(2, 0), 0);
            Check.same("of one that isn't over", b.harm(1, 2), 0);
            Check.same("below 0", Check.ruled("20-over").harm(0, 0), 13 - 20);
            MarshBells haste = obeying("walk 0;lesson 0 10 10 2 0 1;lesson 10 20 1 0 0 1 all 0;"
                + "rule over*(lesson=0)+(lesson=1)*(20-late*5);", 0);
            Check.same("below 0 for another", haste.harm(0, 1), 10 - 20);
            MarshBells part = Check.told("walk 0;lesson 0 10 10 9 0 1;lesson 15 25 10 0 0 1 all 0;");
            Check.same("less than all of it", part.harm(0, 1), 4);
        });
        Check.sentence("`int harm(int lesson, int other) throws NoSuchElementException`: HARM.", () -> {
            MarshBells b = Check.told(ROW);
            for (int none : new int[] {3, -1, Integer.MIN_VALUE, Integer.MAX_VALUE}) {
                Check.missing("of " + none, () -> b.harm(none, 0));
                Check.missing("to " + none, () -> b.harm(0, none));
            }
        });
    }

    private static void pairs() {
        Check.sentence("the couple of LESSONS (a below b) whose OVERS both being 0 LOST would be least by, of like ones the first; none.", () -> {
            MarshBells b = Check.told("lesson 0 10 1 1 0 1;lesson 0 10 1 2 0 1;lesson 0 10 1 3 0 1;");
            Check.same("the last couple", b.pair(0), 102);
            Check.same("LOST then", b.pair(1), 1);
            Check.same("of like ones the first", Check.told("lesson 0 10 1 3 0 1;".repeat(12)).pair(0), 1);
            Check.same("LOST of ten", Check.told("lesson 0 10 1 3 0 1;".repeat(12)).pair(1), 30);
            Check.same("the last of twelve", Check.told("lesson 0 10 1 3 0 1;".repeat(10) + "lesson 0 10 1 3 0 2;".repeat(2)).pair(0), 1011);
            Check.same("no less than now, too", Check.told("lesson 0 10 1 0 0 1;lesson 0 10 1 0 0 1;").pair(0), 1);
            MarshBells more = obeying("lesson 0 10 1 1 0 1;lesson 0 10 1 2 0 1;lesson 0 10 1 5 0 1;rule 9-over;", 0);
            Check.same("more than now, too", more.pair(0), 1);
            Check.same("LOST more", more.pair(1), 9 + 9 + 4);
            Check.same("one alone: none", Check.told("lesson 0 10 1 1 0 1;").pair(0), NONE);
            Check.same("one alone: no LOST", Check.told("lesson 0 10 1 1 0 1;").pair(1), NONE);
            Check.same("without LESSONS", new MarshBells().pair(0), NONE);
        });
    }

    private static void pauses() {
        Check.sentence("GAPS of all LESSONS that begin by the plan at a minute or later are so much more: that minute (a LESSON's FROM) by which LOST is least", () -> {
            MarshBells b = obeying("walk 0;lesson 0 10 10 12 0 1;lesson 10 20 10 0 0 2 all 0;lesson 20 30 10 0 0 3 all 1;"
                + "rule over+(lesson=1 and late<12)*50;", 0);
            Check.same("by FROM, not by when it begins", b.pause(2, 0), 20);
            Check.same("LOST then", b.pause(2, 1), 12 + 24 + 30);
            Check.same("nothing stays", b.lesson(2, 11), 0);
            MarshBells more = Check.told("walk 0;lesson 0 10 10 50 0 1;lesson 10 20 10 0 0 1 all 0 gap 30;");
            Check.same("so much more than GAP is", more.pause(1, 1), 50 + 19);
            Check.same("and above 30", more.pause(20, 1), 50);
            MarshBells both = Check.told("walk 0;lesson 0 10 10 9 0 1;lesson 10 20 10 0 0 1 all 0;lesson 10 20 10 0 0 1 all 0;");
            Check.same("of all of them", both.pause(5, 1), 9 + 4 + 4);
        });
        Check.sentence("of like ones the least; none without LESSONS.", () -> {
            Check.same("alike", Check.told(ROW).pause(4, 0), 0);
            Check.same("alike: LOST", Check.told(ROW).pause(4, 1), 4);
            Check.same("the least FROM, not the first told",
                Check.told("lesson 30 40 1 0 0 1;lesson 10 20 1 0 0 1;lesson 20 30 1 0 0 1;").pause(1, 0), 10);
            Check.same("none", new MarshBells().pause(1, 0), NONE);
            Check.same("none: LOST", new MarshBells().pause(1, 1), NONE);
            Check.same("none in an empty house", Check.told("walk 1;").pause(30, 0), NONE);
            Check.same("one", Check.told("lesson 7 40 1 0 0 1;").pause(30, 0), 7);
            Check.same("one: LOST", Check.told("lesson 7 40 1 0 0 1;").pause(30, 1), 0);
        });
        Check.sentence("A PAUSE of some minutes (1 to 30)", () -> {
            MarshBells b = Check.told("walk 0;lesson 0 10 10 31 0 1;lesson 10 20 10 0 0 1 all 0;");
            Check.same("1", b.pause(1, 1), 31 + 30);
            Check.same("30", b.pause(30, 1), 31 + 1);
        });
        Check.sentence("A PAUSE: the minute (what 0), LOST then (1); NONE: none. NoSuchElementException: another what. IllegalArgumentException (behind that): minutes.", () -> {
            MarshBells b = Check.told(ROW);
            Check.missing("what 2", () -> b.pause(1, 2));
            for (int wrong : new int[] {0, 31, -1, Integer.MIN_VALUE, Integer.MAX_VALUE}) {
                Check.illegal("pause " + wrong, () -> b.pause(wrong, 0));
                Check.missing("what is ahead", () -> b.pause(wrong, 2));
            }
            for (int what : NO_INDEX) {
                Check.missing("pause what " + what, () -> b.pause(1, what));
            }
            Check.illegal("without LESSONS, too", () -> new MarshBells().pause(0, 0));
        });
    }

    private static void nothingStays() {
        Check.sentence("Nothing is promised beyond the answers and state changes described above", () -> {
            MarshBells b = obeying(STAIR + "rule over+late;", 0);
            b.see(0, 1);
            b.become(1, 1, 3);
            String before = Check.all(b);
            b.fits(0);
            b.streams();
            b.term(7, 60, 0, 0);
            b.on(10, 0);
            b.clash(1);
            b.busiest(1);
            b.idle();
            b.shift(2, 0);
            b.harm(0, 2);
            b.pair(0);
            b.pause(30, 0);
            Check.same(before + " is now " + Check.all(b), Check.all(b).equals(before), true);
        });
    }
}
