/** The edges that promises 11 to 17 and the Terms of WEEKS name, each sentence by itself. */
final class WeekEdgeTests {
    private static final int LEAST = Integer.MIN_VALUE;
    private static final int MOST = Integer.MAX_VALUE;
    /** A judge whose TASTE and FRIEND no street or wall of owners 0 to 3 meets. */
    private static final String PLAIN = "c14";

    public static void main(String[] args) {
        threeAtMostArePlaced();
        coloursBy3And2And1();
        ofLikeOnesTheLeast();
        looks9AtMost();
        looks0AtLeast();
        colour0AtLeast();
        aCatsScoreNotBelow0();
        twoRainsAreOneWeekOfRain();
        eventsAsToldInOneWeek();
        eyeAndFriend();
        aWallHasItsFirsts();
        theThirdTime();
        theThirdTimeInTheLastWeek();
        wallsAlone();
        allFell();
        theJudgeIsThere();
        zeroInLaterWeeks();
        eventsWithoutAJudge();
        keptInThisWeekAlone();
        allKeptIn();
        theTenthThing();
        theLastWeekCounts();
        champions();
        placedInOneWeek();
        theQuestionBefore();
        numbersNotAsTold();
        Due.end();
    }

    private static String things(int many, String each) {
        StringBuilder text = new StringBuilder();
        for (int i = 0; i < many; i++) {
            text.append(i == 0 ? "" : ";").append(each);
        }
        return text.toString();
    }

    private static void threeAtMostArePlaced() {
        Due.of("Of those that are shown three at most are placed; 11: NONE");
        for (int many = 0; many <= 10; many++) {
            RosetteShow x = Due.show(things(many, "s50"), PLAIN, "");
            for (int week = 0; week < 12; week += 11) {
                Due.is("shown", x.show(week, 1), many);
                for (int place = 0; place < 3; place++) {
                    Due.is("place " + place + " of " + many, x.place(week, place), place < many ? place : -1);
                }
            }
        }
    }

    private static void coloursBy3And2And1() {
        Due.of("COLOURS are more by 3, 2, 1");
        RosetteShow x = Due.show("s90;s80;s70;s60", PLAIN, "");
        for (int week = 0; week < 12; week++) {
            for (int t = 0; t < 4; t++) {
                Due.is("COLOUR of " + t, x.at(week, t, 1), (3 - t) * (week + 1));
                Due.is("FIRST of " + t, x.at(week, t, 2), t == 0 ? week + 1 : 0);
            }
        }
    }

    private static void ofLikeOnesTheLeast() {
        Due.of("by SCORE, of like ones the least first");
        RosetteShow x = Due.show("s60;w60;s31;c51", "c11", "");
        for (int t = 0; t < 4; t++) {
            Due.is("SCORE of " + t, x.at(0, t, 4), t == 3 ? 9 : 6);
        }
        Due.is("FIRST", x.place(0, 0), 3);
        Due.is("SECOND", x.place(0, 1), 0);
        Due.is("THIRD", x.place(0, 2), 1);
        Due.is("COLOUR of the last", x.at(11, 2, 1), 0);
    }

    private static void looks9AtMost() {
        Due.of("LOOKS of a THING that is GROOMED are more by 2, 9 at most");
        for (int looks = 0; looks <= 9; looks++) {
            RosetteShow x = Due.show("s" + looks + "0", PLAIN, "");
            x.event(0, 11, 0);
            Due.is("ahead of it", x.at(10, 0, 0), looks);
            Due.is("once", x.at(11, 0, 0), Math.min(9, looks + 2));
            x.event(0, 11, 0);
            Due.is("twice", x.at(11, 0, 0), Math.min(9, looks + 4));
        }
    }

    private static void looks0AtLeast() {
        Due.of("LOOKS of a cat that is SECOND are less by 1, 0 at least");
        for (int looks = 0; looks <= 9; looks++) {
            RosetteShow x = Due.show("s90;c" + looks + "1", "w14", "");
            Due.is("SECOND once", x.at(0, 1, 0), Math.max(0, looks - 1));
            Due.is("its SCORE is of ahead of that", x.at(0, 1, 4), looks);
            Due.is("SECOND twelve times", x.at(11, 1, 0), 0);
        }
        RosetteShow x = Due.show("c90;c81;c72", "w14", "");
        Due.is("FIRST", x.at(0, 0, 0), 9);
        Due.is("SECOND", x.at(0, 1, 0), 7);
        Due.is("THIRD", x.at(0, 2, 0), 7);
        RosetteShow y = Due.show("c90;s80;w72", "s14", "");
        Due.is("a cat FIRST or a street SECOND", y.at(11, 1, 0), 8);
        Due.is("a wall THIRD", y.at(11, 2, 0), 7);
    }

    private static void colour0AtLeast() {
        Due.of("by a RAIN the COLOUR of each THING is less by 1, 0 at least");
        for (int rains = 0; rains <= 5; rains++) {
            RosetteShow x = Due.show("s90;s80;s70", PLAIN, "");
            for (int t = 0; t < 3; t++) {
                x.event(1, 1, t);
            }
            for (int i = 0; i < rains; i++) {
                x.event(2, 1, 0);
            }
            for (int t = 0; t < 3; t++) {
                Due.is("COLOUR of " + t + " behind " + rains, x.at(1, t, 1), Math.max(0, 3 - t - rains));
            }
        }
        RosetteShow x = Due.show("s90", PLAIN, "");
        x.event(2, 0, 0);
        Due.is("ahead of any COLOUR", x.at(0, 0, 1), 3);
    }

    private static void aCatsScoreNotBelow0() {
        Due.of("of a cat by 2 less in a WEEK of RAIN (not below 0)");
        for (int looks = 0; looks <= 9; looks++) {
            RosetteShow x = Due.show("c" + looks + "0", "s14;c90", "01");
            x.event(2, 0, 0);
            x.event(2, 1, 0);
            int dry = Math.max(0, looks - 2);
            Due.is("SCORE of LOOKS " + looks, x.at(0, 0, 4), dry);
            Due.is("and EYE and FRIEND behind that", x.at(1, 0, 4), dry + 12);
            Due.is("in the next WEEK", x.at(2, 0, 4), looks);
            Due.is("LOOKS stay", x.at(2, 0, 0), looks);
        }
        RosetteShow x = Due.show("s50;w50", PLAIN, "");
        x.event(2, 0, 0);
        Due.is("a street", x.at(0, 0, 4), 5);
        Due.is("a wall", x.at(0, 1, 4), 5);
    }

    private static void twoRainsAreOneWeekOfRain() {
        Due.of("in a WEEK of RAIN");
        RosetteShow x = Due.show("c90", "s14", "");
        for (int i = 0; i < 4; i++) {
            x.event(2, 3, 0);
        }
        Due.is("SCORE", x.at(3, 0, 4), 7);
        Due.is("COLOUR", x.at(3, 0, 1), 9 - 4 + 3);
    }

    private static void eventsAsToldInOneWeek() {
        Due.of("In a WEEK first its EVENTS are done");
        RosetteShow x = Due.show("c10;s20", "w14", "");
        x.event(2, 0, 0);
        x.event(0, 0, 0);
        x.event(0, 0, 0);
        Due.is("groomed and wet", x.at(0, 0, 4), 3);
        Due.is("FIRST by that", x.place(0, 0), 0);
        x.event(1, 0, 0);
        Due.is("KEPT in, too", x.at(0, 0, 4), -1);
        Due.is("yet groomed", x.at(0, 0, 0), 5);
        Due.is("it shows that later", x.at(1, 0, 4), 5);
    }

    private static void eyeAndFriend() {
        Due.of("by the EYE more, if it is of that sort that is the TASTE; and by 3 more, if it is the FRIEND's");
        for (int eye = 1; eye <= 9; eye++) {
            for (int taste = 0; taste < 3; taste++) {
                RosetteShow x = Due.show("s00;c15;w25", "scw".charAt(taste) + "" + eye + "5", "");
                for (int t = 0; t < 3; t++) {
                    int due = t + (t == taste ? eye : 0) + (t == 0 ? 0 : 3);
                    Due.is("SCORE of " + t + " by " + taste, x.at(0, t, 4), due);
                }
            }
        }
        RosetteShow x = Due.show("w95", "w95", "");
        Due.is("the most there is", x.at(2, 0, 4), 9 + 2 + 9 + 3);
        RosetteShow y = Due.show("s00", "c11", "");
        Due.is("the least there is", y.at(0, 0, 4), 0);
        Due.is("it is shown", y.show(0, 1), 1);
        Due.is("and FIRST", y.place(0, 0), 0);
    }

    private static void aWallHasItsFirsts() {
        Due.of("of a wall as many more as it was FIRST by then");
        RosetteShow x = Due.show("w50;s70", PLAIN, "");
        x.event(1, 0, 1);
        x.event(1, 4, 1);
        int[] scores = {5, 6, 6, 6, 6, 7, -1, -1};
        for (int week = 0; week < 8; week++) {
            Due.is("SCORE in " + week, x.at(week, 0, 4), scores[week]);
            Due.is("a street has none", x.at(week, 1, 4), week == 0 || week == 4 ? -1 : 7);
        }
        Due.is("of like ones it is the least in 5, and FALLS", x.at(5, 0, 3), 1);
    }

    private static void theThirdTime() {
        Due.of("a wall that is FIRST for the third time FALLS");
        RosetteShow x = Due.show("w90;s00", PLAIN, "");
        x.event(1, 1, 0);
        int[] firsts = {1, 1, 2, 3, 3};
        for (int week = 0; week < 5; week++) {
            Due.is("how often FIRST behind " + week, x.at(week, 0, 2), firsts[week]);
            Due.is("whether it FELL behind " + week, x.at(week, 0, 3), week < 3 ? 0 : 1);
            Due.is("how many are shown in " + week, x.show(week, 1), week == 1 || week == 4 ? 1 : 2);
        }
        Due.is("its SCORE in that WEEK", x.at(3, 0, 4), 11);
        Due.is("its COLOUR of that WEEK", x.at(3, 0, 1), 9);
        Due.is("it is shown no more", x.at(4, 0, 4), -1);
        Due.is("nor placed", x.place(4, 0), 1);
        Due.is("nor is there a SECOND", x.place(4, 1), -1);
        Due.is("its COLOUR stays", x.at(11, 0, 1), 9);
        Due.is("FALLEN", x.left(0), 1);
    }

    private static void theThirdTimeInTheLastWeek() {
        Due.of("behind WEEK 11");
        RosetteShow x = Due.show("w90;s00", PLAIN, "111111111");
        Due.is("behind 10", x.at(10, 0, 3), 0);
        Due.is("behind 11", x.at(11, 0, 3), 1);
        Due.is("FALLEN", x.left(0), 1);
        x.type(2, '1');
        Due.is("FIRST twice", x.at(11, 0, 2), 2);
        Due.is("it stands", x.at(11, 0, 3), 0);
        Due.is("FALLEN", x.left(0), 0);
    }

    private static void wallsAlone() {
        Due.of("a wall FALLS");
        for (String sort : new String[] {"s", "c"}) {
            RosetteShow x = Due.show(sort + "90", "w14", "");
            Due.is("FIRST twelve times", x.at(11, 0, 2), 12);
            Due.is("it stands", x.at(11, 0, 3), 0);
            Due.is("its SCORE", x.at(11, 0, 4), 9);
            Due.is("FALLEN", x.left(0), 0);
            Due.is("COLOUR", x.at(11, 0, 1), 36);
        }
    }

    private static void allFell() {
        Due.of("all THINGS are shown that are not KEPT in, and did not FALL");
        RosetteShow x = Due.show("w90;w80;w70;w60", PLAIN, "");
        for (int week = 0; week < 12; week++) {
            Due.is("FIRST in " + week, x.place(week, 0), week / 3);
            Due.is("shown in " + week, x.show(week, 1), 4 - week / 3);
        }
        Due.is("FALLEN", x.left(0), 15);
        RosetteShow y = Due.show("w90;w80;w70", PLAIN, "");
        Due.is("the judge is there", y.show(9, 0), 0);
        Due.is("none is shown", y.show(9, 1), 0);
        Due.is("none is placed", y.place(9, 0), -1);
        Due.is("nor in the last WEEK", y.place(11, 2), -1);
    }

    private static void theJudgeIsThere() {
        Due.of("if the JUDGE who has the box is there; 13: NONE");
        String[] judges = {"", "s10", "s10;s10", "s10;s10;s10", "s10;s10;s10;s10"};
        for (int many = 0; many <= 4; many++) {
            RosetteShow x = Due.show("s50", judges[many], "012332103210");
            for (int week = 0; week < 12; week++) {
                int has = "012332103210".charAt(week) - '0';
                boolean isThere = has < many;
                Due.is("JUDGE of " + many + " in " + week, x.show(week, 0), isThere ? has : -1);
                Due.is("shown in " + week, x.show(week, 1), isThere ? 1 : 0);
                Due.is("FIRST in " + week, x.place(week, 0), isThere ? 0 : -1);
                Due.is("SCORE in " + week, x.at(week, 0, 4), isThere ? 9 : -1);
            }
        }
    }

    private static void zeroInLaterWeeks() {
        Due.of("which JUDGE has it in each WEEK (0 on); 0 in later ones");
        for (int told = 0; told <= 12; told++) {
            RosetteShow x = Due.show("s50", "s10;s10;s10;s10", "333333333333".substring(0, told));
            for (int week = 0; week < 12; week++) {
                Due.is("JUDGE in " + week + " of " + told, x.show(week, 0), week < told ? 3 : 0);
            }
        }
    }

    private static void eventsWithoutAJudge() {
        Due.of("first its EVENTS are done. Then, if the JUDGE is there");
        RosetteShow x = Due.show("s50;c31", "s10", "0110");
        x.event(2, 1, 0);
        x.event(0, 2, 1);
        Due.is("COLOUR behind 0", x.at(0, 0, 1), 3);
        Due.is("COLOUR behind the RAIN", x.at(1, 0, 1), 2);
        Due.is("LOOKS behind SECOND", x.at(1, 1, 0), 2);
        Due.is("LOOKS groomed", x.at(2, 1, 0), 4);
    }

    private static void keptInThisWeekAlone() {
        Due.of("one that is KEPT in is not shown in this WEEK; 12: SCORE NONE");
        for (int week = 0; week < 12; week++) {
            RosetteShow x = Due.show("s50;s41", PLAIN, "");
            x.event(1, week, 0);
            x.event(1, week, 0);
            for (int w = 0; w < 12; w++) {
                Due.is("SCORE in " + w, x.at(w, 0, 4), w == week ? -1 : 5);
                Due.is("shown in " + w, x.show(w, 1), w == week ? 1 : 2);
                Due.is("FIRST in " + w, x.place(w, 0), w == week ? 1 : 0);
                Due.is("SECOND in " + w, x.place(w, 1), w == week ? -1 : 1);
            }
        }
    }

    private static void allKeptIn() {
        Due.of("11: which THING is; NONE");
        RosetteShow x = Due.show("s50;s41", PLAIN, "");
        x.event(1, 5, 0);
        x.event(1, 5, 1);
        Due.is("JUDGE", x.show(5, 0), 0);
        Due.is("shown", x.show(5, 1), 0);
        for (int place = 0; place < 3; place++) {
            Due.is("place " + place, x.place(5, place), -1);
        }
        Due.is("COLOUR stays", x.at(5, 0, 1), 15);
        Due.is("shown again", x.show(6, 1), 2);
    }

    private static void theTenthThing() {
        Due.of("10 at most (0 on)");
        RosetteShow x = Due.show(things(9, "s30") + ";w45", "c14", "");
        for (int twice = 0; twice < 2; twice++) {
            Due.is("FALLEN", x.left(0), 1 << 9);
            Due.is("BARE", x.left(1), 0x1f8);
            Due.is("how often FIRST", x.at(11, 9, 2), 3);
            Due.is("COLOUR", x.at(11, 9, 1), 9);
        }
        x.event(2, 1, 0);
        x.event(2, 11, 0);
        x.event(0, 11, 9);
        Due.is("COLOUR behind RAIN", x.at(1, 9, 1), 5);
        Due.is("COLOUR behind RAIN", x.at(11, 9, 1), 7);
        Due.is("LOOKS", x.at(11, 9, 0), 6);
        Due.is("owned", x.owned(5), 7);
        RosetteShow y = Due.show(things(9, "s30") + ";s45", "c14", "");
        Due.is("best", y.best(), 9);
        Due.is("champion has the others", y.champion(), 0);
        RosetteShow z = Due.show(things(9, "s30") + ";s25", "c14", "");
        Due.is("BARE", z.left(1), 0x3f8);
    }

    private static void theLastWeekCounts() {
        Due.of("BEST: the THING of most COLOUR behind WEEK 11, of like ones the least; CHAMPION likewise");
        // Each is FIRST in six WEEKS and SECOND in six; by WEEK 10 the second one has more.
        RosetteShow x = Due.show("s54;s55", "c14;c15", "000001111110");
        Due.is("COLOUR of 0 behind 10", x.at(10, 0, 1), 27);
        Due.is("COLOUR of 1 behind 10", x.at(10, 1, 1), 28);
        Due.is("owned 4", x.owned(4), 30);
        Due.is("owned 5", x.owned(5), 30);
        Due.is("best", x.best(), 0);
        Due.is("champion", x.champion(), 4);
        Due.tell(x, 2, "000001111111");
        Due.is("best", x.best(), 1);
        Due.is("champion", x.champion(), 5);
        Due.is("owned 5", x.owned(5), 31);
        RosetteShow y = Due.show("s90;s80", PLAIN, "000000");
        y.event(2, 11, 0);
        Due.is("RAIN of the last WEEK", y.owned(0), 36 - 1 + 24 - 1);
    }

    private static void champions() {
        Due.of("OWNED by one (0 to 5): the COLOURS of all those THINGS, together. CHAMPION: whose are most, of like ones the least");
        for (int owner = 0; owner < 6; owner++) {
            RosetteShow x = Due.show("s5" + owner, "c11", "");
            for (int other = 0; other < 6; other++) {
                Due.is("owned " + other, x.owned(other), other == owner ? 36 : 0);
            }
            Due.is("champion", x.champion(), owner);
        }
        RosetteShow x = Due.show("s95;s84;s74", "c11", "");
        Due.is("FIRST has 36, the other two together", x.owned(4), 36);
        Due.is("like ones", x.champion(), 4);
        Due.is("yet best", x.best(), 0);
        RosetteShow none = Due.show("s95;s84", "", "");
        Due.is("all are like with 0", none.champion(), 0);
        Due.is("best of all with 0", none.best(), 0);
    }

    private static void placedInOneWeek() {
        Due.of("BARE: THINGS that are never placed, as bits");
        for (int week = 0; week < 12; week++) {
            RosetteShow x = Due.show("s90;s80;s70;s60;s50", PLAIN, "");
            x.event(1, week, 1);
            Due.is("placed in " + week + " alone", x.left(1), 16);
            x.back();
            Due.is("not placed in " + week, x.left(1), 24);
        }
        for (int place = 0; place < 3; place++) {
            RosetteShow x = Due.show("s90;s80;s70;s60", PLAIN, "");
            for (int t = place; t < 3; t++) {
                x.event(1, 0, t);
            }
            Due.is("placed in WEEK 0, and so", x.place(0, place), 3);
            Due.is("placed so alone", x.left(1), 0);
        }
        RosetteShow x = Due.show("s90;s80", PLAIN, "333333333333");
        Due.is("no WEEK has a judge", x.left(1), 3);
    }

    /** What a question supposes does not stay for the next one. */
    private static void theQuestionBefore() {
        Due.of("what is asked changes nothing");
        for (int question = 0; question < 8; question++) {
            for (int answer = 0; answer < 7; answer++) {
                RosetteShow x = Due.show("w90;s80;s71", "c14;c11", "010101");
                x.event(1, 0, 0);
                x.event(0, 9, 2);
                int due = plain(x, answer);
                suppose(x, question);
                Due.is("answer " + answer + " behind question " + question, plain(x, answer), due);
            }
        }
        RosetteShow y = Due.show("s90;s81", PLAIN, "");
        y.rival(1, 0);
        Due.is("champion though it was KEPT in", y.champion(), 0);
        y.rival(1, 0);
        Due.is("owned", y.owned(0), 36);
        y.rival(1, 0);
        Due.is("best", y.best(), 0);
        y.rival(1, 0);
        Due.is("BARE", y.left(1), 0);
        RosetteShow x = Due.show("w90;s80;s71", "c14;c11", "010101");
        // The wall has 9 behind WEEK 2, the first street 30 and the other one 24 behind WEEK 11.
        int[] due = {9 + 30 - 24, 0, 1, 1, 0, 9, 1};
        for (int answer = 0; answer < 7; answer++) {
            suppose(x, answer);
            Due.is("answer " + answer, plain(x, answer), due[answer]);
        }
    }

    private static void suppose(RosetteShow x, int question) {
        switch (question) {
            case 0 -> x.brush(2, 0);
            case 1 -> x.rival(0, 0);
            case 2 -> x.send(0, 1, 0);
            case 3 -> x.spare(-1);
            case 4 -> x.never();
            case 5 -> x.looked(1);
            case 6 -> x.tastes(1);
            default -> x.years(5, 12, 0);
        }
    }

    private static int plain(RosetteShow x, int answer) {
        return switch (answer) {
            case 0 -> x.owned(0) - x.owned(1);
            case 1 -> x.champion();
            case 2 -> x.best();
            case 3 -> x.left(0);
            case 4 -> x.left(1);
            case 5 -> x.at(4, 0, 1);
            default -> x.place(6, 0);
        };
    }

    private static void numbersNotAsTold() {
        Due.of("11 to 14, 17: BAD");
        RosetteShow x = Due.show("s50;s41", PLAIN, "");
        for (int wrong : new int[] {-1, 12, LEAST, MOST}) {
            Due.is("place WEEK " + wrong, x.place(wrong, 0), -2);
            Due.is("at WEEK " + wrong, x.at(wrong, 0, 0), -2);
            Due.is("show WEEK " + wrong, x.show(wrong, 0), -2);
        }
        for (int wrong : new int[] {-1, 3, LEAST, MOST}) {
            Due.is("place " + wrong, x.place(0, wrong), -2);
        }
        for (int wrong : new int[] {-1, 2, 9, LEAST, MOST}) {
            Due.is("at THING " + wrong, x.at(0, wrong, 0), -2);
            Due.is("show what " + wrong, x.show(0, wrong), -2);
            Due.is("left " + wrong, x.left(wrong), -2);
        }
        for (int wrong : new int[] {-1, 5, LEAST, MOST}) {
            Due.is("at what " + wrong, x.at(0, 0, wrong), -2);
        }
        for (int wrong : new int[] {-1, 6, LEAST, MOST}) {
            Due.is("owned " + wrong, x.owned(wrong), -2);
        }
        Due.is("the last THING", x.at(11, 1, 4), 4);
        Due.is("the last owner", x.owned(5), 0);
        Due.is("BAD is no FINDING", x.count(8), 0);
    }
}
