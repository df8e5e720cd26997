/** Promises 2 to 4, and the language that a house and its rules are told in. */
public final class TextsTest {
    private static final String L = "lesson 0 5 1 0 0 1;";

    public static void main(String[] args) {
        tape();
        houseAnew();
        houseAfterHouse();
        tokens();
        lines();
        lessonNumbers();
        waiting();
        someOfMore();
        tooMuch();
        depth();
        parts();
        values();
        Check.end();
    }

    private static void tape() {
        MarshBells bells = new MarshBells();
        for (int i = 1; i <= 35; i++) {
            Check.same("feed " + i, bells.feed(i, -1, 0, Integer.MIN_VALUE, 7), 20 * i);
        }
        Check.same("a full tape", bells.feed(0, 0, 0, 0, 0), MarshBells.NONE);
        Check.same("its bytes", bells.count(8), 700);
        Check.illegal("house(701)", () -> bells.house(701));
        Check.illegal("house(-1)", () -> bells.house(-1));
        Check.illegal("house(least)", () -> bells.house(Integer.MIN_VALUE));
        Check.same("still there", bells.count(8), 700);
        Check.same("no fault by what is refused so", bells.count(9), 0);
        Check.same("bytes that are no token", bells.house(700), 1);
        Check.same("at the first", bells.fault(), 0);
        Check.same("empty then", bells.count(8), 0);
        Check.same("feed again", bells.feed(0, 0, 0, 0, 0), 20);
        Check.same("nothing of it", bells.house(0), 0);
        Check.same("all of it is gone", bells.count(8), 0);
        Check.illegal("house(1)", () -> bells.house(1));
        // 'walk', ' 7;' and a blank: the highest byte of each number first.
        bells.feed(0x77616c6b, 0x20373b20, 0x0a0a0a0a, 0x20202020, 0x20202020);
        Check.same("by bytes", bells.house(20), 0);
        Check.same("walk", bells.count(3), 7);
    }

    private static void houseAnew() {
        MarshBells bells = Check.told("lesson 0 10 5 3 0 1;rule 1;walk 3;stair 4;");
        bells.become(0, 0, 9);
        bells.obey(0);
        bells.see(0, 9);
        bells.see(0, -1);
        bells.become(0, 0, 61);
        bells.gaps(0, 0, 999);
        bells.image();
        Check.same("a text with a fault", Check.tell(bells, "lesson 7 9 1 1 1 1;stair 2;walk 10;"), 2);
        Check.same("its place", bells.fault(), 32);
        Check.same("all stays: LESSONS", bells.count(0), 1);
        Check.same("all stays: FROM", bells.lesson(0, 0), 0);
        Check.same("all stays: OVER", bells.lesson(0, 3), 9);
        Check.same("all stays: the RULE", bells.count(2), 0);
        Check.same("all stays: WALK", bells.count(3), 3);
        Check.same("all stays: STAIR", bells.count(4), 4);
        Check.same("all stays: ACTS", bells.count(5), 2);
        Check.same("all stays: SEEN", bells.count(6), 1);
        Check.same("all stays: GAPS", bells.gap(0), 0);
        Check.same("all stays: the image", bells.restore(), true);
        Check.illegal("house(9)", () -> bells.house(9));
        Check.same("the fault of the latest that was read", bells.fault(), 32);
        Check.same("anew", Check.tell(bells, "lesson 20 30 5 4 6 2;"), 0);
        Check.same("no fault", bells.fault(), MarshBells.NONE);
        Check.same("anew: FROM", bells.lesson(0, 0), 20);
        Check.same("anew: OVER", bells.lesson(0, 3), 4);
        Check.same("anew: RULES", bells.count(1), 0);
        Check.same("anew: the RULE", bells.count(2), MarshBells.NONE);
        Check.same("anew: WALK", bells.count(3), 1);
        Check.same("anew: STAIR", bells.count(4), 99);
        Check.same("gone: ACTS", bells.undo(), MarshBells.NONE);
        Check.same("gone: SEEN", bells.count(6), 0);
        Check.missing("gone: GAPS", () -> bells.gap(0));
        Check.same("gone: the image", bells.restore(), false);
        Check.same("STATUS 0 stays", bells.count(9), 1);
        Check.same("STATUS 1 stays", bells.count(10), 1);
        Check.same("STATUS 2 stays", bells.count(11), 1);
    }

    /** What an earlier house told must not show through a later one. */
    private static void houseAfterHouse() {
        MarshBells bells = Check.told(L + "lesson 0 5 1 0 0 1;lesson 0 5 1 0 0 1 some 2 0 1 limit 3 maybe 4 gap 5;"
            + "walk 2;stair 3;rule 1;rule 2;rule 3;");
        for (int i = 0; i < 3; i++) {
            Check.same("the same again", Check.tell(bells, L + L + L + "rule 40+over;"), 0);
            int[] want = {0, 5, 1, 0, 0, 1, 2, 0, 0, 99, 10, 0};
            for (int what = 0; what < 12; what++) {
                Check.same("after others " + what, bells.lesson(2, what), want[what]);
            }
            Check.same("RULES after others", bells.count(1), 1);
            Check.same("WALK after others", bells.count(3), 1);
            Check.same("STAIR after others", bells.count(4), 99);
            bells.obey(0);
            Check.same("its own rule", bells.day(0, 3), 40);
            Check.same("all told at once", Check.tell(bells, L + L + "lesson 0 5 1 0 0 1 all 1;walk 9;rule 5;rule 6;"), 0);
            Check.same("for whom it waits", bells.lesson(2, 8), 2);
            bells.obey(1);
            Check.same("the second rule", bells.day(0, 3), 6);
            Check.same("a fault between", Check.tell(bells, L + L + "lesson 0 5 1 0 0 1 some 2 0 1;rule 1;walk x;"), 1);
        }
    }

    private static void tokens() {
        Check.taken("");
        Check.taken(" \n ");
        Check.taken("walk\n1\n;\n");
        Check.taken("walk1;stair0099;");
        Check.taken("lesson 0 05 0001 00 0 1;");
        Check.taken(L + "lesson0 5 1 0 0 1all0limit2;");
        Check.taken("rule not(over)and 1or 2;");
        Check.refused("walk\t1;", 1, 4);
        Check.refused("walk 1;\r", 1, 7);
        Check.refused("Walk 1;", 1, 0);
        Check.refused("walk 1;\u00e9", 1, 7);
        Check.refused("walk 1:", 1, 6);
        Check.refused("walks 1;", 1, 0);
        Check.refused("talk 1;", 1, 0);
        Check.refused("wall 1;", 1, 0);
        Check.refused("zalk 1;", 1, 0);
        Check.refused("wal k 1;", 1, 0);
        Check.refused("walk 00001;", 2, 5);
        Check.refused("walk", 1, 4);
        Check.refused("walk   ", 1, 7);
        Check.refused("walk 1 ", 1, 7);
        Check.refused("rule 1 +  ", 1, 10);
        Check.refused("walk 1 2;", 1, 7);
        Check.refused("walk 1 12345;", 1, 7);
        Check.refused("walk ;", 1, 5);
        Check.refused("walk x;", 1, 5);
        Check.refused("rule 99999;", 2, 5);
        Check.taken("rule 9999;");
        Check.refused("rule 1 99999;", 1, 7);
    }

    private static void lines() {
        Check.taken("walk 0;stair 1;");
        Check.taken("walk 9;stair 99;");
        Check.refused("walk 10;", 2, 5);
        Check.refused("stair 0;", 2, 6);
        Check.refused("stair 100;", 2, 6);
        Check.refused("walk 1;stair 2;walk 1;", 5, 15);
        Check.refused("stair 2;walk 1;stair x;", 5, 15);
        Check.refused(";", 1, 0);
        Check.refused("12;", 1, 0);
        Check.refused("all 0;", 1, 0);
        Check.refused("over;", 1, 0);
        Check.refused("walk 1;;", 1, 7);
    }

    private static void lessonNumbers() {
        Check.taken("lesson 0 1 1 0 0 1;");
        Check.taken("lesson 998 999 200 60 9 99;");
        Check.refused("lesson 999 999 1 0 0 1;", 2, 11);
        Check.refused("lesson 1000 1 1 0 0 1;", 2, 7);
        Check.refused("lesson 5 4 1 0 0 1;", 2, 9);
        Check.refused("lesson 5 5 1 0 0 1;", 2, 9);
        Check.refused("lesson 0 5 201 0 0 1;", 2, 11);
        Check.refused("lesson 0 5 0 0 0 1;", 2, 11);
        Check.refused("lesson 0 5 1 61 0 1;", 2, 13);
        Check.refused("lesson 0 5 1 0 10 1;", 2, 15);
        Check.refused("lesson 0 5 1 0 0 0;", 2, 17);
        Check.refused("lesson 0 5 1 0 0 100;", 2, 17);
        Check.refused("lesson all;", 1, 7);
        Check.refused("lesson 0 5 1 0 0 1 2;", 1, 19);
        Check.refused("lesson 0 5 1 0 0 1 over 2;", 1, 19);
        Check.taken("lesson 0 5 1 0 0 1 limit 99 maybe 10 gap 30;");
        Check.taken("lesson 0 5 1 0 0 1 limit 0 maybe 0 gap 0;");
        Check.refused("lesson 0 5 1 0 0 1 limit 100;", 2, 25);
        Check.refused("lesson 0 5 1 0 0 1 maybe 11;", 2, 25);
        Check.refused("lesson 0 5 1 0 0 1 gap 31;", 2, 23);
        Check.refused("lesson 0 5 1 0 0 1 limit;", 1, 24);
        Check.refused("lesson 0 5 1 0 0 1 maybe 1 limit 2;", 1, 27);
        Check.refused("lesson 0 5 1 0 0 1 gap 1 maybe 2;", 1, 25);
        Check.refused("lesson 0 5 1 0 0 1 limit 1 limit 2;", 1, 27);
        Check.refused(L + "lesson 0 5 1 0 0 1 limit 2 all 0;", 1, 19 + 27);
    }

    private static void waiting() {
        Check.taken(L + "lesson 0 5 1 0 0 1 all 0;");
        Check.taken(L + L + "lesson 0 5 1 0 0 1 all 1 0;");
        Check.refused("lesson 0 5 1 0 0 1 all 0;", 3, 23);
        Check.refused(L + "lesson 0 5 1 0 0 1 all 1;", 3, 19 + 23);
        Check.refused(L + "lesson 0 5 1 0 0 1 all 9999;", 3, 19 + 23);
        Check.refused(L + "lesson 0 5 1 0 0 1 all 12345;", 2, 19 + 23);
        Check.refused(L + "lesson 0 5 1 0 0 1 all 0 0;", 4, 19 + 25);
        Check.refused(L + "lesson 0 5 1 0 0 1 all 0 00;", 4, 19 + 25);
        Check.refused(L + "lesson 0 5 1 0 0 1 all;", 1, 19 + 22);
        Check.refused(L + "lesson 0 5 1 0 0 1 all limit 3;", 1, 19 + 23);
        Check.refused(L + "lesson 0 5 1 0 0 1 all 0 all 0;", 1, 19 + 25);
        Check.refused(L + "lesson 0 5 1 0 0 1 all 0 some 1 0;", 1, 19 + 25);
        Check.refused(L + "lesson 0 5 1 0 0 1 all", 1, 19 + 22);
        String six = L + L + L + L + L + L + L;
        Check.taken(six + "lesson 0 5 1 0 0 1 all 6 5 4 3 2 1;");
        Check.refused(six + "lesson 0 5 1 0 0 1 all 6 5 4 3 2 1 0;", 2, 133 + 35);
        Check.refused(six + "lesson 0 5 1 0 0 1 all 6 5 4 3 2 1 1;", 2, 133 + 35);
        Check.refused(six + "lesson 0 5 1 0 0 1 all 6 5 4 3 2 1 9;", 2, 133 + 35);
    }

    private static void someOfMore() {
        Check.taken(L + L + "lesson 0 5 1 0 0 1 some 2 0 1;");
        Check.taken(L + L + "lesson 0 5 1 0 0 1 some 1 0 1 limit 4;");
        Check.refused(L + "lesson 0 5 1 0 0 1 some;", 1, 19 + 23);
        Check.refused(L + "lesson 0 5 1 0 0 1 some x;", 1, 19 + 24);
        Check.refused(L + "lesson 0 5 1 0 0 1 some 0 0;", 2, 19 + 24);
        Check.refused(L + "lesson 0 5 1 0 0 1 some 7 0;", 2, 19 + 24);
        Check.refused(L + "lesson 0 5 1 0 0 1 some 2 0;", 6, 19 + 27);
        Check.refused(L + "lesson 0 5 1 0 0 1 some 2 0 limit 3;", 6, 19 + 28);
        Check.refused(L + "lesson 0 5 1 0 0 1 some 2 0 )", 6, 19 + 28);
        Check.refused(L + "lesson 0 5 1 0 0 1 some 2 0 !", 6, 19 + 28);
        Check.refused(L + "lesson 0 5 1 0 0 1 some 2 0 ", 6, 19 + 28);
        Check.refused(L + "lesson 0 5 1 0 0 1 some 1;", 6, 19 + 25);
        Check.refused(L + "lesson 0 5 1 0 0 1 some 2 0 0;", 4, 19 + 28);
        Check.refused(L + "lesson 0 5 1 0 0 1 some 2 0 1;", 3, 19 + 28);
        Check.refused(L + "lesson 0 5 1 0 0 1 some 2 0 12345;", 2, 19 + 28);
        Check.refused(L + "lesson 0 5 1 0 0 1 some 1 0 )", 1, 19 + 28);
    }

    private static void tooMuch() {
        String twelve = L + L + L + L + L + L + L + L + L + L + L + L;
        Check.taken(twelve);
        Check.refused(twelve + "lesson x", 2, 228);
        Check.refused(twelve + "lessons", 1, 228);
        Check.taken("rule 1;rule 2;rule 3;rule 4;");
        Check.refused("rule 1;rule 2;rule 3;rule 4;rule", 2, 28);
        Check.taken("rule 1" + "+1".repeat(346) + " ;");
    }

    private static void depth() {
        Check.taken("rule (((((1)))));");
        Check.taken("rule (((((not 1+1)))))*(((((2)))));");
        Check.refused("rule ((((((1))))));", 2, 11);
        Check.refused("rule ((((((over))))));", 2, 11);
        Check.refused("rule ((((((bell))))));", 2, 11);
        Check.refused("rule ((((((not 1))))));", 2, 11);
        Check.refused("rule (((((((1)))))));", 2, 11);
        Check.refused("rule ((((((12345))))));", 2, 11);
        Check.refused("rule (((((()))))));", 1, 11);
        Check.refused("rule ((((((+1))))));", 1, 11);
        Check.refused("rule ((((((", 1, 11);
        Check.refused("rule 1+((((((1))))));", 2, 13);
        Check.taken("rule not not not not not not 1;");
        Check.refused("rule not not not not not not not 1;", 2, 29);
        Check.taken("rule not not not not not not (not not not not not not 1);");
        Check.taken("rule not not not not not not 1 and not not not not not not 1;");
        Check.refused("rule 1 or not not not not not not not;", 2, 34);
        Check.refused("rule not not not not not not ;", 1, 29);
        Check.refused("rule not not not not not not bell;", 3, 29);
    }

    private static void parts() {
        Check.refused("rule;", 1, 4);
        Check.refused("rule", 1, 4);
        Check.refused("rule bell;", 3, 5);
        Check.refused("rule or;", 3, 5);
        Check.refused("rule rule;", 3, 5);
        Check.refused("rule 1+not 1;", 3, 7);
        Check.refused("rule 1<not 1;", 3, 7);
        Check.refused("rule not or;", 3, 9);
        Check.refused("rule 1 and and 1;", 3, 11);
        Check.refused("rule overs;", 3, 5);
        Check.refused("rule overz;", 3, 5);
        Check.refused("rule overa;", 3, 5);
        Check.refused("rule over{;", 1, 9);
        Check.refused("rule over`;", 1, 9);
        Check.refused("rule 1:;", 1, 6);
        Check.refused("rule 1 bell;", 1, 7);
        Check.refused("rule 1 not;", 1, 7);
        Check.refused("rule over late;", 1, 10);
        Check.refused("rule 1<2<3;", 1, 8);
        Check.refused("rule 1=2<3;", 1, 8);
        Check.taken("rule (1<2)<3;");
        Check.refused("rule *1;", 1, 5);
        Check.refused("rule -1;", 1, 5);
        Check.refused("rule 1+;", 1, 7);
        Check.refused("rule 1//2;", 1, 7);
        Check.refused("rule (1;", 1, 7);
        Check.refused("rule 1);", 1, 6);
        Check.refused("rule ();", 1, 6);
        Check.refused("rule (1", 1, 7);
        Check.refused("rule 1+!;", 1, 7);
        Check.taken("rule over+late+clock+room+people+lesson;");
    }

    private static void values() {
        Check.given("over", 7);
        Check.given("clock-99", 1);
        Check.given("room", 3);
        Check.given("people", 8);
        Check.given("lesson", 0);
        Check.given("late+5", 5);
        Check.given("1+2*3", 7);
        Check.given("2*3+1", 7);
        Check.given("(1+2)*3", 9);
        Check.given("8-3-2", 3);
        Check.given("24/4/2", 3);
        Check.given("24/4*2", 12);
        Check.given("10+(0-7)/2", 7);
        Check.given("10-7/2", 7);
        Check.given("5/0+3", 3);
        Check.given("0/0+3", 3);
        Check.given("0-5", 0);
        Check.given("60", 60);
        Check.given("61", 60);
        Check.given("9999", 60);
        Check.given("1<2", 1);
        Check.given("2<2", 0);
        Check.given("2=2", 1);
        Check.given("2=3", 0);
        Check.given("1+1=2", 1);
        Check.given("1<1+1", 1);
        Check.given("not 0", 1);
        Check.given("not 5", 0);
        Check.given("not not 5", 1);
        Check.given("not 0+1", 0);
        Check.given("not 1=2", 1);
        Check.given("(not 0)+1", 2);
        Check.given("3 and 2", 1);
        Check.given("3 and 0", 0);
        Check.given("0-3 or 0", 1);
        Check.given("0 or 0", 0);
        Check.given("1 or 1 and 0", 1);
        Check.given("(1 or 1) and 0", 0);
        Check.given("not 0 and 0", 0);
        Check.given("not (0 and 0)", 1);
        Check.given("not 1 or 1", 1);
        Check.given("(9999*9999*9999<0)*2", 9999 * 9999 * 9999 < 0 ? 2 : 0);
        Check.given("9999*9999*9999/9999/9999+40", 9999 * 9999 * 9999 / 9999 / 9999 + 40);
        Check.given("(over=7 and people<9)*4+(room=9)*50", 4);
    }
}
