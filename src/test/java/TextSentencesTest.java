/** The document's 'Terms' up to its FAULTS, and promises 1 to 4: each sentence with an edge has a test of its own. */
public final class TextSentencesTest {
    private static final int NONE = MarshBells.NONE;
    private static final String L = "lesson 0 5 1 0 0 1;";
    private static final String WAITS = "lesson 0 5 1 0 0 1 ";

    public static void main(String[] args) {
        numbersOfLessons();
        waits();
        withoutThem();
        tokens();
        lines();
        expressions();
        values();
        faultsInGeneral();
        faultOne();
        faultTwo();
        faultsThreeToSix();
        newObject();
        feeding();
        housing();
        faultPlaces();
        Check.end();
    }

    /** A number from least to most may stand there; one less and one more are too much. */
    private static void range(String ahead, int least, int most, String behind) {
        Check.taken(ahead + least + behind);
        Check.taken(ahead + most + behind);
        Check.refused(ahead + (most + 1) + behind, 2, ahead.length());
        if (least > 0) {
            Check.refused(ahead + (least - 1) + behind, 2, ahead.length());
        }
    }

    private static void numbersOfLessons() {
        Check.sentence("LESSONS 0, 1 .. (at most 12)", () -> {
            MarshBells b = Check.told(L.repeat(12));
            Check.same("LESSONS", b.count(0), 12);
            Check.same("the last", b.lesson(11, 1), 5);
            Check.missing("a 13th", () -> b.lesson(12, 1));
            Check.refused(L.repeat(13), 2, 12 * 19);
        });
        Check.sentence("FROM and TO by the plan (0 to 999 minutes, FROM below TO)", () -> {
            Check.taken("lesson 0 1 1 0 0 1;");
            Check.taken("lesson 998 999 1 0 0 1;");
            Check.refused("lesson 1000 1001 1 0 0 1;", 2, 7);
            Check.refused("lesson 999 1000 1 0 0 1;", 2, 11);
            Check.refused("lesson 0 1000 1 0 0 1;", 2, 9);
            Check.refused("lesson 7 7 1 0 0 1;", 2, 9);
            Check.refused("lesson 7 6 1 0 0 1;", 2, 9);
            Check.refused("lesson 0 0 1 0 0 1;", 2, 9);
            MarshBells b = Check.told("lesson 998 999 1 0 0 1;");
            Check.same("FROM", b.lesson(0, 0), 998);
            Check.same("TO", b.lesson(0, 1), 999);
        });
        Check.sentence("LEAST (1 to 200 minutes)", () -> {
            range("lesson 0 5 ", 1, 200, " 0 0 1;");
            Check.same("200", Check.told("lesson 0 5 200 0 0 1;").lesson(0, 2), 200);
        });
        Check.sentence("OVER (0 to 60)", () -> {
            range("lesson 0 5 1 ", 0, 60, " 0 1;");
            Check.same("60", Check.told("lesson 0 5 1 60 0 1;").lesson(0, 3), 60);
        });
        Check.sentence("a ROOM (0 to 9)", () -> {
            range("lesson 0 5 1 0 ", 0, 9, " 1;");
            Check.same("9", Check.told("lesson 0 5 1 0 9 1;").lesson(0, 4), 9);
        });
        Check.sentence("PEOPLE (1 to 99)", () -> {
            range("lesson 0 5 1 0 0 ", 1, 99, ";");
            Check.same("99", Check.told("lesson 0 5 1 0 0 99;").lesson(0, 5), 99);
        });
    }

    private static void waits() {
        Check.sentence("A LESSON WAITS for others told ahead of it (at most 6)", () -> {
            MarshBells six = Check.told(L.repeat(7) + WAITS + "all 6 0 5 1 4 2;");
            Check.same("for six", six.lesson(7, 8), 0b1110111);
            Check.refused(L.repeat(7) + WAITS + "all 6 0 5 1 4 2 3;", 2, 7 * 19 + 35);
            Check.refused(WAITS + "all 0;", 3, 23);
            Check.refused(L + WAITS + "all 1;" + L, 3, 19 + 23);
            Check.same("the one right ahead", Check.told(L.repeat(11) + WAITS + "all 10;").lesson(11, 8), 1 << 10);
        });
        Check.sentence("1 some (so many of them: 1 to 6)", () -> {
            String six = L.repeat(6) + WAITS + "some ";
            range(six, 1, 6, " 0 1 2 3 4 5;");
            MarshBells b = Check.told(six + "6 0 1 2 3 4 5;");
            Check.same("SORT", b.lesson(6, 6), 1);
            Check.same("how many", b.lesson(6, 7), 6);
        });
        Check.sentence("0 all", () -> {
            MarshBells b = Check.told(L + WAITS + "all 0;");
            Check.same("SORT", b.lesson(1, 6), 0);
            Check.same("of some: 0 else", b.lesson(1, 7), 0);
        });
        Check.sentence("2 none (so without)", () -> {
            MarshBells b = Check.told(L);
            Check.same("SORT", b.lesson(0, 6), 2);
            Check.same("of some: 0 else", b.lesson(0, 7), 0);
            Check.same("for nobody", b.lesson(0, 8), 0);
        });
    }

    private static void withoutThem() {
        Check.sentence("LIMIT minutes at most (0 to 99; 99 without)", () -> {
            range(WAITS + "limit ", 0, 99, ";");
            Check.same("0", Check.told(WAITS + "limit 0;").lesson(0, 9), 0);
            Check.same("without", Check.told(L).lesson(0, 9), 99);
        });
        Check.sentence("so many tenths (0 to 10) how likely it runs over at all (10 without)", () -> {
            range(WAITS + "maybe ", 0, 10, ";");
            Check.same("0", Check.told(WAITS + "maybe 0;").lesson(0, 10), 0);
            Check.same("without", Check.told(L).lesson(0, 10), 10);
        });
        Check.sentence("GAP (0 to 30; 0 without)", () -> {
            range(WAITS + "gap ", 0, 30, ";");
            Check.same("30", Check.told(WAITS + "gap 30;").lesson(0, 11), 30);
            Check.same("without", Check.told(L).lesson(0, 11), 0);
        });
        Check.sentence("WALK: minutes from a ROOM to the next one (0 to 9; 1 without)", () -> {
            range("walk ", 0, 9, ";");
            Check.same("0", Check.told("walk 0;").count(3), 0);
            Check.same("9", Check.told("walk 9;").count(3), 9);
            Check.same("without", Check.told("").count(3), 1);
        });
        Check.sentence("STAIR: people a minute (1 to 99; 99 without)", () -> {
            range("stair ", 1, 99, ";");
            Check.same("1", Check.told("stair 1;").count(4), 1);
            Check.same("without", Check.told("").count(4), 99);
        });
        Check.sentence("RULES 0, 1 .. (at most 4)", () -> {
            MarshBells b = Check.told("lesson 0 5 1 0 0 1;rule 6;rule 7;rule 8;rule 9;");
            Check.same("RULES", b.count(1), 4);
            for (int rule = 0; rule < 4; rule++) {
                Check.same("LOST by " + rule, b.compare(rule), 6 + rule);
            }
            Check.refused("rule 6;rule 7;rule 8;rule 9;rule 1;", 2, 28);
        });
    }

    private static void tokens() {
        Check.sentence("A TEXT of at most 700 bytes tells it.", () -> {
            String full = L.repeat(12) + "rule 1" + "+1".repeat(232) + " ;";
            Check.same("bytes", full.length(), 700);
            MarshBells b = Check.told(full);
            b.obey(0);
            Check.same("LESSONS", b.count(0), 12);
            Check.same("all of the rule", b.compare(0), 12 * 60);
            Check.refused(L.repeat(12) + "rule 1" + "+1".repeat(233), 1, 700);
        });
        Check.sentence("words (a .. z, the longest row)", () -> {
            Check.taken("rule over+late+clock+room+people+lesson;");
            Check.refused("walkwalk 1;", 1, 0);
            for (String near : new String[] {"talk", "wblk", "wack", "wald", "wal", "alk", "walks"}) {
                Check.refused(near + " 1;", 1, 0);
            }
            Check.refused("rule aver;", 3, 5);
            Check.refused("rule overover;", 3, 5);
            Check.refused("rule over`;", 1, 9);
            Check.refused("rule over{;", 1, 9);
            Check.refused("rule Over;", 1, 5);
            Check.refused("rule oveR;", 3, 5);
            Check.refused("rule notover;", 3, 5);
            Check.taken("rule not over;");
        });
        Check.sentence("NUMBERS (1 to 4 digits)", () -> {
            Check.given("0", 0);
            Check.given("0009", 9);
            Check.given("9999-9990", 9);
            Check.given("9998/1111", 8);
            Check.refused("rule 00009;", 2, 5);
            Check.refused("rule 1:;", 1, 6);
            Check.given("1/1", 1);
            Check.taken("lesson 0000 0001 0001 0000 0000 0001 limit 0099 maybe 0010 gap 0030;");
        });
        Check.sentence("signs ; ( ) + - * / < =", () -> {
            Check.given("(2+3)*4-6/2", 17);
            Check.given("(2<3)+(3=3)", 2);
            for (String none : new String[] {",", ".", ">", ":", "!", "[", "]", "%", "&", "|", "'", "_", "?"}) {
                Check.refused("rule 1" + none + "1;", 1, 6);
            }
        });
        Check.sentence("blanks (32, 10) between them count for nothing", () -> {
            Check.taken("\n\n walk \n 1 ; \n");
            Check.taken("walk1;stair2;rule(1)and 2;");
            Check.given(" ( \n 2 + 3 ) \n * 4 ", 20);
            for (int none : new int[] {0, 9, 11, 12, 13, 31, 33, 127, 128, 160, 255}) {
                Check.refused("walk" + (char) none + "1;", 1, 4);
            }
            Check.refused("wa lk 1;", 1, 0);
            Check.refused("walk 1 0;", 1, 7);
            Check.refused("rule ov\ner;", 3, 5);
        });
    }

    private static void lines() {
        Check.sentence("HOUSE: LINE*.", () -> {
            for (String nothing : new String[] {"", " ", "\n", " ".repeat(700)}) {
                MarshBells b = Check.told(nothing);
                Check.same("LESSONS", b.count(0), 0);
                Check.same("RULES", b.count(1), 0);
            }
            MarshBells b = Check.told("rule 1;walk 2;" + L + "stair 3;" + L + "rule 4;");
            Check.same("LESSONS among others", b.count(0), 2);
            Check.same("RULES among others", b.count(1), 2);
            Check.same("WALK among others", b.count(3), 2);
            Check.same("STAIR among others", b.count(4), 3);
        });
        Check.sentence("['all' LESSON LESSON* | 'some' NUMBER LESSON LESSON*]", () -> {
            Check.taken(L + WAITS + "all 0;");
            Check.taken(L + WAITS + "some 1 0;");
            Check.refused(L + WAITS + "all;", 1, 19 + 22);
            Check.refused(L + WAITS + "some;", 1, 19 + 23);
            Check.refused(L + WAITS + "0;", 1, 19 + 19);
            Check.refused(L + WAITS + "all 0 some 1 0;", 1, 19 + 25);
            Check.refused(L + WAITS + "some 1 0 all 0;", 1, 19 + 28);
            Check.refused(L + WAITS + "none;", 1, 19 + 19);
        });
        Check.sentence("['limit' NUMBER] ['maybe' NUMBER] ['gap' NUMBER]", () -> {
            String[] parts = {"limit 3 ", "maybe 4 ", "gap 5 "};
            int[] what = {9, 10, 11};
            int[] told = {3, 4, 5};
            int[] without = {99, 10, 0};
            for (int set = 0; set < 8; set++) {
                StringBuilder text = new StringBuilder(L + WAITS + "all 0 ");
                for (int k = 0; k < 3; k++) {
                    text.append((set >> k & 1) != 0 ? parts[k] : "");
                }
                MarshBells b = Check.told(text + ";");
                for (int k = 0; k < 3; k++) {
                    Check.same(parts[k] + set, b.lesson(1, what[k]), (set >> k & 1) != 0 ? told[k] : without[k]);
                }
            }
            Check.refused(WAITS + "maybe 4 limit 3;", 1, 27);
            Check.refused(WAITS + "gap 5 limit 3;", 1, 25);
            Check.refused(WAITS + "gap 5 maybe 4;", 1, 25);
            Check.refused(WAITS + "gap 5 gap 5;", 1, 25);
            Check.refused(WAITS + "limit;", 1, 24);
            Check.refused(WAITS + "maybe;", 1, 24);
            Check.refused(WAITS + "gap;", 1, 22);
            Check.refused(L + WAITS + "limit 3 all 0;", 1, 19 + 27);
        });
        Check.sentence("'walk' NUMBER | 'stair' NUMBER | 'rule' EXPR) ';'", () -> {
            String[] bare = {"walk", "stair", "rule"};
            for (String word : bare) {
                Check.taken(word + " 1;");
                Check.refused(word + ";", 1, word.length());
                Check.refused(word + " 1", 1, word.length() + 2);
                Check.refused(word + " 1 1;", 1, word.length() + 3);
                Check.refused(word + " 1;;", 1, word.length() + 3);
            }
            Check.refused("walk 1+1;", 1, 6);
            Check.refused("stair (1);", 1, 6);
        });
    }

    private static void expressions() {
        Check.sentence("EXPR: AND ('or' AND)*.", () -> {
            Check.given("0 or 0", 0);
            Check.given("0 or 0 or 3", 1);
            Check.given("1 or 0 and 0", 1);
            Check.given("(1 or 0) and 0", 0);
            Check.refused("rule 1 or;", 1, 9);
        });
        Check.sentence("AND: NOT ('and' NOT)*.", () -> {
            Check.given("2 and 3 and 4", 1);
            Check.given("2 and 3 and 0", 0);
            Check.given("not 0 and 0", 0);
            Check.given("1 and not 0", 1);
            Check.refused("rule 1 and;", 1, 10);
        });
        Check.sentence("NOT: 'not' NOT | SUM [('<' | '=') SUM].", () -> {
            Check.given("not 3=3", 0);
            Check.given("not 3<2", 1);
            Check.given("not 0+5", 0);
            Check.given("not not 5", 1);
            Check.given("1+1<2+1", 1);
            Check.given("1+2=2+1", 1);
            Check.refused("rule 1<2<3;", 1, 8);
            Check.refused("rule 1=2=3;", 1, 8);
            Check.refused("rule 1<not 2;", 3, 7);
        });
        Check.sentence("SUM: PRODUCT (('+' | '-') PRODUCT)*. PRODUCT: PART (('*' | '/') PART)*.", () -> {
            Check.given("1+2*3+4", 11);
            Check.given("2*3-8/4", 4);
            Check.given("30-2*3*4", 6);
            Check.given("2*(3+4)", 14);
            for (String sign : new String[] {"+", "-", "*", "/"}) {
                Check.refused("rule 1" + sign + ";", 1, 7);
                Check.refused("rule 1" + sign + sign + "1;", 1, 7);
                Check.refused("rule " + sign + "1;", 1, 5);
                Check.refused("rule 1" + sign, 1, 7);
            }
        });
        Check.sentence("PART: NUMBER | VALUE | '(' EXPR ')'.", () -> {
            Check.given("(1 or 1)+(2<3)+over", 9);
            Check.refused("rule ();", 1, 6);
            Check.refused("rule (1;", 1, 7);
            Check.refused("rule 1);", 1, 6);
            Check.refused("rule -1;", 1, 5);
        });
        Check.sentence("From the left; ints that wrap", () -> {
            Check.given("20-8-2", 10);
            Check.given("20-8+2", 14);
            Check.given("48/4/2", 6);
            Check.given("48/4*2", 24);
            Check.given("7*3/2", 10);
            // 8192*8192*32 is one more than the greatest int: the least one.
            Check.given("(8192*8192*32<0)+5", 6);
            Check.given("(8192*8192*32-1<0)+5", 5);
            Check.given("(8192*8192*31+8192*8192<0)+5", 6);
            Check.given("(0-8192*8192*32<0)+5", 6);
            Check.given("(8192*8192*64=0)+5", 6);
            Check.given("(8192*8192*32/(0-1)<0)+5", 6);
        });
        Check.sentence("/ cut down to 0, by 0 gives 0", () -> {
            Check.given("7/2", 3);
            Check.given("(0-7)/2+10", 7);
            Check.given("7/(0-2)+10", 7);
            Check.given("(0-7)/(0-2)+10", 13);
            Check.given("1/2+4", 4);
            Check.given("(0-1)/2+4", 4);
            Check.given("7/0+3", 3);
            Check.given("(0-7)/0+3", 3);
            Check.given("0/0+3", 3);
            Check.given("8192*8192*32/0+3", 3);
            Check.given("over/late+3", 3);
        });
        Check.sentence("tests, not, and, or are 1 or 0 (what isn't 0 holds)", () -> {
            Check.given("(2<9)*7", 7);
            Check.given("(9<2)*7+1", 1);
            Check.given("(2<2)*7+1", 1);
            Check.given("(2=2)*7", 7);
            Check.given("(not 9)*7+1", 1);
            Check.given("(not (0-1))*7+1", 1);
            Check.given("(not 0)*7", 7);
            Check.given("(4 and 8)*7", 7);
            Check.given("(4 and (0-8))*7", 7);
            Check.given("(4 and 0)*7+1", 1);
            Check.given("(0 and 4)*7+1", 1);
            Check.given("(0-4 or 0)*7", 7);
            Check.given("(0 or 4)*7", 7);
            Check.given("(4 or 8)*7", 7);
            Check.given("(1 and 2)*7", 7);
            Check.given("(0-1<0)*7", 7);
        });
    }

    private static void values() {
        String two = "walk 0;lesson 10 20 1 5 4 8;lesson 14 40 1 9 3 7 all 0;rule ";
        Check.sentence("'late' (how much later than FROM it began)", () -> {
            MarshBells b = Check.told(two + "late+1;");
            b.obey(0);
            Check.same("at FROM", b.day(0, 3), 1);
            Check.same("later", b.day(1, 3), 21 - 14 + 1);
            b.become(1, 3, 2);
            Check.same("by LIMIT", b.day(1, 3), 2 + 1);
        });
        Check.sentence("'clock' (when it began)", () -> {
            MarshBells b = Check.told(two + "clock+1;");
            b.obey(0);
            Check.same("at FROM", b.day(0, 3), 11);
            Check.same("later", b.day(1, 3), 31 + 1);
        });
        Check.sentence("'room', 'people', 'lesson' (its number)", () -> {
            MarshBells b = Check.told(two + "room;rule people;rule lesson;rule over;");
            int[][] want = {{4, 3}, {8, 7}, {0, 1}, {5, 9}};
            for (int rule = 0; rule < 4; rule++) {
                b.obey(rule);
                Check.same("rule " + rule + " of the first", b.day(0, 3), want[rule][0]);
                Check.same("rule " + rule + " of the second", b.day(1, 3), want[rule][1]);
            }
            MarshBells twelve = Check.told(L.repeat(12) + "rule lesson;");
            twelve.obey(0);
            Check.same("the greatest number", twelve.day(11, 3), 11);
        });
    }

    private static void faultsInGeneral() {
        Check.sentence("FAULTS, the first along the text", () -> {
            Check.refused("walk 10;stair 0;soup", 2, 5);
            Check.refused("soup;walk 10;", 1, 0);
            Check.refused("rule bell;walk 1;walk 1;", 3, 5);
            Check.refused("walk 1;walk 10;", 5, 7);
            Check.refused("lesson 0 0 0 61 10 0 all 9;", 2, 9);
            Check.refused("rule ((((((1+bell", 2, 11);
        });
        Check.sentence("at a TOKEN's first byte", () -> {
            Check.refused("  \n walk   0010  ;", 2, 11);
            Check.refused("  soup", 1, 2);
            Check.refused("rule  bells ;", 3, 6);
            Check.refused("rule 1+123456;", 2, 7);
        });
        Check.sentence("of one TOKEN the least", () -> {
            String seven = L.repeat(7) + WAITS + "all 0 1 2 3 4 5 ";
            Check.refused(seven + "9;", 2, 7 * 19 + 35);
            Check.refused(seven + "5;", 2, 7 * 19 + 35);
            Check.refused(L + WAITS + "all 12345;", 2, 19 + 23);
            Check.refused("rule ((((((bell))))));", 2, 11);
            Check.refused("rule ((((((or))))));", 2, 11);
            Check.refused(L + WAITS + "some 2 0 1;", 3, 19 + 28);
            Check.refused(L + WAITS + "some 2 0 0;", 4, 19 + 28);
            Check.refused(L + WAITS + "some 2 0 10000;", 2, 19 + 28);
            Check.refused("walk 1 12345;", 1, 7);
            Check.refused("rule 1 bell;", 1, 7);
        });
    }

    private static void faultOne() {
        Check.sentence("1 a TOKEN that can't stand there, or is none", () -> {
            for (String token : new String[] {";", "(", ")", "+", "-", "*", "/", "<", "=", "7", "over", "all", "x", "#"}) {
                Check.refused(token + " 1;", 1, 0);
                Check.refused("walk " + (token.equals("7") ? "x" : token) + ";", 1, 5);
            }
            for (String token : new String[] {"(", ")", "+", "x", "#", "lesson", "all", "gap"}) {
                Check.refused("walk 1 " + token, 1, 7);
            }
            for (int k = 0; k < 6; k++) {
                String ahead = "lesson " + "0 9 8 7 6 5 ".substring(0, 2 * k);
                Check.refused(ahead + "x;", 1, ahead.length());
                Check.refused(ahead + ";", 1, ahead.length());
            }
        });
        Check.sentence("(the text's length where it ends too soon)", () -> {
            String whole = L + "lesson 0 5 1 0 0 1 all 0 limit 3 maybe 4 gap 5 ;";
            for (int n = 20; n < whole.length(); n++) {
                MarshBells b = new MarshBells();
                Check.feed(b, whole);
                Check.same("the first " + n, b.house(n), 1);
                // The last word may be cut short: then it is that word.
                Check.same("its place " + n, b.fault() == n || isCutWord(whole, b.fault(), n), true);
            }
            Check.refused("walk   ", 1, 7);
            Check.refused("rule 1 + \n ", 1, 11);
            Check.refused("rule (", 1, 6);
            Check.refused("rule not", 1, 8);
            Check.refused("walk 1", 1, 6);
        });
    }

    private static boolean isCutWord(String whole, int place, int n) {
        if (place < 0 || place >= n || n >= whole.length()) {
            return false;
        }
        for (int i = place; i <= n; i++) {
            if (!Character.isLowerCase(whole.charAt(i))) {
                return false;
            }
        }
        return place == 0 || !Character.isLowerCase(whole.charAt(place - 1));
    }

    private static void faultTwo() {
        Check.sentence("a NUMBER of 5 digits or more", () -> {
            String[] ahead = {"lesson ", "lesson 0 ", "lesson 0 5 ", "lesson 0 5 1 ", "lesson 0 5 1 0 ", "lesson 0 5 1 0 0 ",
                WAITS + "limit ", WAITS + "maybe ", WAITS + "gap ", L + WAITS + "all ", L + WAITS + "some ",
                L + WAITS + "some 1 ", L + WAITS + "all 0 ", "walk ", "stair ", "rule ", "rule 1+", "rule (", "rule not "};
            for (String text : ahead) {
                Check.refused(text + "00001;", 2, text.length());
                Check.refused(text + "99999;", 2, text.length());
                Check.refused(text + "00000000001;", 2, text.length());
                // As an int or a long this would wrap to 1.
                Check.refused(text + "4294967297;", 2, text.length());
                Check.refused(text + "18446744073709551617;", 2, text.length());
            }
        });
        Check.sentence("(not in an EXPR) not as told (a TO that is no more than FROM)", () -> {
            Check.taken("rule 9999+1000+0;");
            Check.refused("lesson 500 500 1 0 0 1;", 2, 11);
            Check.refused("lesson 500 499 1 0 0 1;", 2, 11);
            Check.taken("lesson 500 501 1 0 0 1;");
            Check.refused("walk 9999;", 2, 5);
        });
        Check.sentence("the first TOKEN of the 13th LESSON", () -> {
            Check.refused(L.repeat(12) + "lesson", 2, 228);
            Check.refused(L.repeat(12) + "lesson x", 2, 228);
            Check.refused(L.repeat(12) + "walk 1; lesson 0 5", 2, 236);
            Check.refused(L.repeat(12) + "lessons", 1, 228);
        });
        Check.sentence("the 5th RULE", () -> {
            String four = "rule 1;rule 1;rule 1;rule 1;";
            Check.taken(four);
            Check.refused(four + "rule", 2, 28);
            Check.refused(four + "rule bell;", 2, 28);
            Check.refused(four + " rules 1;", 1, 29);
        });
        Check.sentence("the 7th LESSON that one WAITS for", () -> {
            String six = L.repeat(8) + WAITS + "some 2 0 1 2 3 4 5";
            Check.taken(six + ";");
            Check.refused(six + " 6;", 2, 8 * 19 + 38);
            Check.refused(six + " 6 7;", 2, 8 * 19 + 38);
            Check.taken(six + ";" + "lesson 0 5 1 0 0 1 all 8 7 6 5 4 3;");
        });
        Check.sentence("of an EXPR within 6 others (a NUMBER, any word, a parenthesis)", () -> {
            Check.given("(((((5)))))", 5);
            Check.given("(((((5)))))+(((((6)))))", 11);
            for (String token : new String[] {"5", "over", "not", "bell", "or", "and", "rule", "(", "12345"}) {
                Check.refused("rule ((((((" + token, 2, 11);
                Check.refused("rule 1*((((((" + token, 2, 13);
                Check.refused("rule not ((((((" + token, 2, 15);
            }
            for (String token : new String[] {")", "+", "-", "*", "/", "<", "=", ";", "#", ""}) {
                Check.refused("rule ((((((" + token, 1, 11);
            }
            Check.refused("rule (((((1)))))+(((((( 5", 2, 24);
        });
        Check.sentence("the seventh 'not' side by side", () -> {
            String six = "not not not not not not ";
            Check.given(six + "5", 1);
            Check.given(six + "0", 0);
            Check.given("not not not not not 5", 0);
            Check.given(six + "(" + six + "5)", 1);
            Check.given(six + "5 and " + six + "5", 1);
            Check.refused("rule " + six + "not 5;", 2, 29);
            Check.refused("rule " + six + six + "5;", 2, 29);
            Check.refused("rule (" + six + "not 5);", 2, 30);
            Check.refused("rule 1 or " + six + "not", 2, 34);
            Check.refused("rule " + six + "notnot", 3, 29);
        });
    }

    private static void faultsThreeToSix() {
        Check.sentence("3 any word where a PART must stand that is no VALUE", () -> {
            String[] ahead = {"rule ", "rule (", "rule not ", "rule 1+", "rule 1-", "rule 1*", "rule 1/", "rule 1<", "rule 1=",
                "rule 1 and ", "rule 1 or "};
            for (String text : ahead) {
                for (String word : new String[] {"bell", "or", "and", "all", "rule", "walk", "ove", "lessons", "z"}) {
                    Check.refused(text + word + ";", 3, text.length());
                }
                for (String value : new String[] {"over", "late", "clock", "room", "people", "lesson"}) {
                    Check.taken(text + value + (text.endsWith("(") ? ");" : ";"));
                }
            }
            for (String text : new String[] {"rule 1+", "rule 1-", "rule 1*", "rule 1/", "rule 1<", "rule 1="}) {
                Check.refused(text + "not 1;", 3, text.length());
            }
        });
        Check.sentence("a LESSON that isn't told ahead", () -> {
            Check.refused(WAITS + "all 0;", 3, 23);
            Check.refused(L + WAITS + "all 1;", 3, 19 + 23);
            Check.refused(L + WAITS + "all 0 2;" + L, 3, 19 + 25);
            Check.refused(L + WAITS + "some 1 9999;", 3, 19 + 26);
            // Beyond what an int has bits for.
            Check.refused(L + WAITS + "all 32;", 3, 19 + 23);
            Check.refused(L + WAITS + "all 0 64;", 3, 19 + 25);
        });
        Check.sentence("4 one that it WAITS for already", () -> {
            Check.refused(L + WAITS + "all 0 0;", 4, 19 + 25);
            Check.refused(L + WAITS + "all 0 0000;", 4, 19 + 25);
            Check.refused(L + L + WAITS + "some 1 1 0 1;", 4, 38 + 30);
            Check.taken(L + WAITS + "all 0;" + "lesson 0 5 1 0 0 1 all 0;");
        });
        Check.sentence("5 a second 'walk', 'stair'", () -> {
            Check.refused("walk 1;walk 1;", 5, 7);
            Check.refused("stair 1;stair 1;", 5, 8);
            Check.refused("walk 1;stair 1;" + L + "walk x", 5, 15 + 19);
            Check.refused("stair 1;walk 1;rule 1; stair", 5, 23);
            Check.taken("walk 1;stair 1;");
            MarshBells again = Check.told("walk 2;stair 2;");
            Check.same("in another text", Check.tell(again, "walk 3;stair 3;"), 0);
            Check.tell(again, "walk 4;stair 4;soup");
            Check.same("behind a text with a fault", Check.tell(again, "walk 5;stair 5;"), 0);
        });
        Check.sentence("6 'some' of more than are told behind it (at the TOKEN behind these, whatever that is: ahead of 1)", () -> {
            String some = L + L + WAITS + "some ";
            Check.taken(some + "2 0 1;");
            Check.refused(some + "3 0 1;", 6, 38 + 29);
            Check.refused(some + "6 0 1;", 6, 38 + 29);
            Check.refused(some + "1;", 6, 38 + 25);
            for (String token : new String[] {"limit 3;", "all 0;", "x", ")", "+", "#", ""}) {
                Check.refused(some + "3 0 1 " + token, 6, 38 + 30);
                Check.refused(some + "2 0 " + token, 6, 38 + 28);
            }
            for (String token : new String[] {"all 0;", "x", ")", "+", "#", ""}) {
                Check.refused(some + "2 0 1 " + token, 1, 38 + 30);
            }
        });
    }

    private static void newObject() {
        Check.sentence("`MarshBells()`: No LESSONS.", () -> {
            MarshBells b = new MarshBells();
            int[] counts = {0, 0, NONE, 1, 99, 0, 0, 0, 0, 0, 0, 0, 0, 0, 0};
            for (int what = 0; what < counts.length; what++) {
                Check.same("count " + what, b.count(what), counts[what]);
            }
            Check.missing("lesson 0", () -> b.lesson(0, 0));
            Check.missing("nothing is kept", () -> b.gap(0));
            Check.same("no image", b.restore(), false);
            Check.same("no ACT", b.undo(), NONE);
            Check.same("no FAULT", b.fault(), NONE);
            MarshBells other = Check.told(L);
            Check.same("one object is not another", other.count(0) - b.count(0), 1);
        });
        Check.sentence("The constants: `NONE = -1`: There is none.", () -> Check.same("NONE", MarshBells.NONE, -1));
    }

    private static void feeding() {
        Check.sentence("Twenty bytes come behind the tape, of each number the highest first: how many it has", () -> {
            MarshBells b = new MarshBells();
            // "lesson 123 456 78 9 ", "8 76;stair 54;walk 3", ";  " and what is left out.
            Check.same("20", b.feed(0x6c657373, 0x6f6e2031, 0x32332034, 0x35362037, 0x38203920), 20);
            Check.same("40", b.feed(0x38203736, 0x3b737461, 0x69722035, 0x343b7761, 0x6c6b2033), 40);
            Check.same("60", b.feed(0x3b20200a, 0xffffffff, 0x80000000, 0x7fffffff, 0), 60);
            Check.same("bytes", b.count(8), 60);
            Check.same("house", b.house(44), 0);
            int[] want = {123, 456, 78, 9, 8, 76};
            for (int what = 0; what < 6; what++) {
                Check.same("lesson " + what, b.lesson(0, what), want[what]);
            }
            Check.same("STAIR", b.count(4), 54);
            Check.same("WALK", b.count(3), 3);
            b.feed(0xffffffff, 0, 0, 0, 0);
            Check.same("a byte above 127 is none", b.house(1), 1);
        });
        Check.sentence("NONE, and none come, if it would have more than 700.", () -> {
            MarshBells b = new MarshBells();
            for (int n = 20; n <= 700; n += 20) {
                Check.same("feed", b.feed(0x20202020, 0x20202020, 0x20202020, 0x20202020, 0x20202020), n);
            }
            for (int i = 0; i < 3; i++) {
                Check.same("full", b.feed(0x78787878, 0x78787878, 0x78787878, 0x78787878, 0x78787878), NONE);
                Check.same("its bytes", b.count(8), 700);
            }
            Check.same("blanks alone", b.house(700), 0);
            Check.same("no STATUS by it", b.count(9) + b.count(10) + b.count(11), 0);
            Check.same("room again", b.feed(0, 0, 0, 0, 0), 20);
        });
    }

    private static void housing() {
        Check.sentence("The tape's first n bytes (it is empty then) are a HOUSE, all anew", () -> {
            MarshBells b = new MarshBells();
            Check.feed(b, "walk 2;walk 3;stair 0;soup and more of it");
            Check.same("the first 7", b.house(7), 0);
            Check.same("empty", b.count(8), 0);
            Check.feed(b, "stair 0;");
            Check.same("a FAULT", b.house(8), 2);
            Check.same("empty then, too", b.count(8), 0);
            Check.feed(b, "stair 5;");
            Check.same("none of the bytes", b.house(0), 0);
            Check.same("empty without one", b.count(8), 0);
            Check.same("anew: WALK", b.count(3), 1);
            Check.feed(b, "lesson 0 5 1 0 0 1 ;");
            Check.same("all of the bytes", b.house(20), 0);
            Check.same("LESSONS", b.count(0), 1);
        });
        Check.sentence("are a HOUSE, all anew", () -> {
            String large = "walk 3;stair 2;rule over+late;rule 60-over;lesson 0 10 10 9 0 9 maybe 0;lesson 5 15 10 9 7 9 all 0 maybe 3;"
                + "lesson 10 20 10 9 1 9 some 2 1 0 maybe 5 gap 3;lesson 15 25 10 9 8 9 all 2 1 0 limit 5;"
                + "lesson 20 30 10 9 2 9 some 1 3 2 1 0 gap 7;lesson 25 35 10 9 9 9 all 4 maybe 9;";
            String[] texts = {"lesson 0 10 10 4 0 1;lesson 10 20 10 0 0 2 all 0;lesson 20 30 10 0 0 3 all 1;", "", large,
                "lesson 10 20 5 0 3 1;", L.repeat(12), "walk 0;rule 7;lesson 0 10 10 4 0 1 maybe 5;", "rule 5;rule over;"};
            MarshBells used = new MarshBells();
            for (int i = 0; i < 3 * texts.length; i++) {
                Check.tell(used, large);
                used.obey(1);
                used.become(1, 0, 33);
                Check.answers(used);
                if (i % 3 == 1) {
                    Check.tell(used, large + "soup");
                }
                String text = texts[i % texts.length];
                Check.same("house", Check.tell(used, text), 0);
                MarshBells fresh = Check.told(text);
                String want = Check.answers(fresh);
                String got = Check.answers(used);
                Check.same(text + " behind another: " + got + " for " + want, got.equals(want), true);
                for (int rule = 0; rule < fresh.count(1); rule++) {
                    Check.same("RULE " + rule, used.compare(rule), fresh.compare(rule));
                }
            }
        });
        Check.sentence("0, or the FAULT (all stays)", () -> {
            MarshBells b = busy();
            String before = Check.state(b);
            String[] bad = {"soup", L + L + L + "rule 9;walk 9;stair 9;rule", "lesson 1 2 3 4 5 6 all 0;"};
            int[] fault = {1, 1, 3};
            for (int i = 0; i < bad.length; i++) {
                Check.same(bad[i], Check.tell(b, bad[i]), fault[i]);
                Check.same(before + " is now " + Check.state(b), Check.state(b).equals(before), true);
                Check.same("GAPS that are kept", b.gap(1), 2);
            }
            Check.same("SEEN", b.fits(0), 1 + 31);
            Check.same("the image", b.restore(), true);
            Check.same("as the image", b.lesson(0, 3), 8);
        });
        Check.sentence("ACTS, what is SEEN, GAPS that are kept, the image are gone (STATUS stays).", () -> {
            MarshBells b = busy();
            Check.tell(b, "soup");
            b.become(0, 0, 61);
            b.see(0, 1000);
            b.see(0, 1000);
            Check.same("the same text", Check.tell(b, BUSY), 0);
            Check.same("ACTS", b.count(5), 0);
            Check.same("undo", b.undo(), NONE);
            Check.same("OVER is anew", b.lesson(0, 3), 5);
            Check.same("the RULE in force is none", b.count(2), NONE);
            Check.same("SEEN", b.count(6), 0);
            Check.missing("GAPS", () -> b.gap(0));
            Check.same("the image", b.restore(), false);
            Check.same("STATUS 0", b.count(9), 1);
            Check.same("STATUS 1", b.count(10), 1);
            Check.same("STATUS 2", b.count(11), 2);
        });
        Check.sentence("IllegalArgumentException: the tape has not so many, n below 0 (nothing changes).", () -> {
            MarshBells b = busy();
            String before = Check.state(b);
            Check.illegal("of an empty tape", () -> b.house(1));
            Check.feed(b, "stair 0;");
            for (int n : new int[] {21, 700, 701, Integer.MAX_VALUE, -1, Integer.MIN_VALUE}) {
                Check.illegal("house " + n, () -> b.house(n));
            }
            Check.same("the tape", b.count(8), 20);
            Check.same("no STATUS", b.count(9), 0);
            Check.same("no FAULT", b.fault(), NONE);
            Check.same(before + " is now " + Check.state(b), Check.state(b).equals(before), true);
            Check.same("the tape is as it was", b.house(20), 2);
            Check.same("its FAULT", b.fault(), 6);
            Check.illegal("behind a FAULT", () -> b.house(1));
            Check.same("that FAULT stays", b.fault(), 6);
            Check.same("STATUS is 1 still", b.count(9), 1);
        });
    }

    private static final String BUSY = "walk 0;lesson 0 10 10 5 0 1;lesson 10 20 10 0 0 2 all 0;rule over+0;";

    /** An object of which everything is another than at first. */
    private static MarshBells busy() {
        MarshBells b = Check.told(BUSY);
        b.become(0, 0, 8);
        b.obey(0);
        b.image();
        b.become(1, 1, 1);
        b.become(0, 0, 6);
        b.become(1, 2, 3);
        b.become(1, 3, 50);
        b.see(0, 6);
        Check.same("GAPS", b.gaps(2, 1, 4), 2);
        return b;
    }

    private static void faultPlaces() {
        Check.sentence("The place of the latest house()'s FAULT; NONE without.", () -> {
            MarshBells b = new MarshBells();
            Check.same("ahead of any", b.fault(), NONE);
            Check.tell(b, "walk 10;");
            Check.same("of one", b.fault(), 5);
            Check.same("asked again", b.fault(), 5);
            Check.tell(b, "soup");
            Check.same("of a later one", b.fault(), 0);
            Check.tell(b, "walk 1;");
            Check.same("without", b.fault(), NONE);
            Check.tell(b, "walk");
            Check.same("at the text's length", b.fault(), 4);
            Check.same("nothing", b.house(0), 0);
            Check.same("nothing has none", b.fault(), NONE);
        });
    }
}
