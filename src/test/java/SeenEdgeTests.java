/** The edges that promises 22 to 27 and the Terms of SEEN name, each sentence by itself. */
final class SeenEdgeTests {
    private static final int LEAST = Integer.MIN_VALUE;
    private static final int MOST = Integer.MAX_VALUE;
    /** A judge whose TASTE and FRIEND no street or wall of owners other than 4 meets. */
    private static final String PLAIN = "c14";
    private static final String NINE = "s30;s30;s30;s30;s30;s30;s30;s30;s30";

    public static void main(String[] args) {
        theLeastAndTheMost();
        numbersNotAsTold();
        eightAtMost();
        forgotten();
        ofOneThatThereIsNot();
        itWasNot();
        neverOfEight();
        neverAlone();
        neverWithoutEvents();
        neverWithoutSeen();
        lookedFrom0To9();
        lookedByAllThatWasSeen();
        lookedInTheLastWeek();
        lookedOfTheTenth();
        lookedGroomed();
        tastesOfEach();
        tastesOfTheFourthInTheLastWeek();
        tastesOfOneWithoutTheBox();
        askOfLikeOnes();
        askInTheLastWeek();
        askOfNoneAndOfOne();
        askWithTheLeastAndTheMostLooks();
        askBySeveralPlaces();
        noSuchThingOrJudge();
        Due.end();
    }

    private static void theLeastAndTheMost() {
        Due.of("in a WEEK a THING (0 to 9) was placed so (0 to 2; 3: it was not)");
        RosetteShow x = new RosetteShow();
        Due.is("the least", x.seen(0, 0, 0), 1);
        Due.is("the greatest", x.seen(11, 9, 3), 2);
        Due.is("the same once more", x.seen(11, 9, 3), 3);
    }

    private static void numbersNotAsTold() {
        Due.of("22: BAD");
        RosetteShow x = Due.show("s50", PLAIN, "");
        for (int wrong : new int[] {-1, LEAST, MOST}) {
            Due.is("WEEK " + wrong, x.seen(wrong, 0, 0), -2);
            Due.is("THING " + wrong, x.seen(0, wrong, 0), -2);
            Due.is("place " + wrong, x.seen(0, 0, wrong), -2);
        }
        Due.is("WEEK 12", x.seen(12, 9, 3), -2);
        Due.is("THING 10", x.seen(11, 10, 3), -2);
        Due.is("place 4", x.seen(11, 9, 4), -2);
        Due.is("none came", x.count(7), 0);
        Due.is("nor is it reckoned with", x.looked(0), 1023);
    }

    private static void eightAtMost() {
        Due.of("SEEN, 8 at most; 22: FULL");
        RosetteShow x = Due.show("s50", PLAIN, "");
        for (int i = 1; i <= 8; i++) {
            Due.is("seen", x.seen(i, 0, 0), i);
        }
        long before = x.digest();
        Due.is("a ninth", x.seen(0, 0, 3), -4);
        Due.is("BAD is ahead of FULL", x.seen(0, 0, 4), -2);
        Due.is("how many", x.count(7), 8);
        Due.is("it changes nothing", x.digest(), before);
        Due.is("LOOKED", x.looked(0), 1023);
        x.forget();
        for (int i = 1; i <= 7; i++) {
            x.seen(i, 0, 0);
        }
        Due.is("the eighth", x.seen(0, 0, 3), 8);
        Due.is("is reckoned with", x.looked(0), 0);
    }

    private static void forgotten() {
        Due.of("23: All SEEN are forgotten: how many");
        RosetteShow x = Due.show("s50", PLAIN, "");
        Due.is("none", x.forget(), 0);
        for (int many = 1; many <= 8; many++) {
            for (int i = 0; i < many; i++) {
                x.seen(0, 0, 3);
            }
            Due.is("LOOKED ahead of it", x.looked(0), 0);
            Due.is("forget", x.forget(), many);
            Due.is("count 7", x.count(7), 0);
            Due.is("LOOKED behind it", x.looked(0), 1023);
        }
        x.event(2, 0, 0);
        x.forget();
        Due.is("EVENTS are not forgotten", x.count(6), 1);
    }

    private static void ofOneThatThereIsNot() {
        Due.of("what is SEEN of one that there is not never comes out so");
        for (int place = 0; place < 4; place++) {
            for (int thing = 2; thing < 10; thing++) {
                RosetteShow x = Due.show("s50;s41", PLAIN, "");
                x.event(2, 0, 0);
                x.seen(0, thing, place);
                Due.is("never", x.never(), 0);
                Due.is("looked", x.looked(0), 0);
                Due.is("tastes", x.tastes(0), 0);
                Due.is("ask", x.ask(1), 0);
            }
        }
        RosetteShow x = Due.show("s50;s41", PLAIN, "");
        x.event(2, 0, 0);
        x.seen(0, 1, 1);
        Due.is("the last that there is", x.never(), 1);
        x.type(0, ';');
        Due.is("with a FAULT there is none", x.never(), 0);
        RosetteShow y = Due.show("", PLAIN, "");
        y.event(2, 0, 0);
        y.seen(0, 0, 3);
        Due.is("never without THINGS", y.never(), 0);
        Due.is("tastes without THINGS", y.tastes(0), 0);
        y.forget();
        Due.is("never without THINGS and SEEN", y.never(), 1);
        Due.is("tastes without THINGS and SEEN", y.tastes(0), 7);
    }

    private static void itWasNot() {
        Due.of("3: it was not");
        RosetteShow x = Due.show("s90;s80;s70;s60", PLAIN, "0111");
        x.event(1, 4, 0);
        x.seen(0, 3, 3);
        Due.is("the fourth", x.tastes(0), 7);
        x.seen(1, 0, 3);
        Due.is("no judge is there", x.tastes(0), 7);
        x.seen(4, 0, 3);
        Due.is("it is KEPT in", x.tastes(0), 7);
        x.seen(4, 3, 2);
        Due.is("THIRD for that", x.tastes(0), 7);
        x.seen(5, 2, 3);
        Due.is("THIRD is placed", x.tastes(0), 0);
    }

    private static void neverOfEight() {
        Due.of("24: EVENTS each of which, had it alone not been, makes all that was SEEN come out so, as bits");
        for (int at = 0; at < 8; at++) {
            RosetteShow x = Due.show("s50;s41", PLAIN, "");
            for (int i = 0; i < 8; i++) {
                x.event(i == at ? 0 : 2, 11, 1);
            }
            Due.is("nothing SEEN", x.never(), 255);
            x.seen(11, 1, 1);
            Due.is("it was not groomed", x.never(), 1 << at);
            x.forget();
            x.seen(11, 1, 0);
            Due.is("it was groomed", x.never(), 255 - (1 << at));
        }
    }

    private static void neverAlone() {
        Due.of("24: had it alone not been");
        RosetteShow x = Due.show("s50;s41", PLAIN, "");
        x.event(0, 0, 1);
        x.event(0, 0, 1);
        x.seen(0, 1, 1);
        Due.is("one grooming is left", x.never(), 0);
        x.back();
        Due.is("none is left", x.never(), 1);
    }

    private static void neverWithoutEvents() {
        Due.of("24: EVENTS");
        RosetteShow x = Due.show("s50", PLAIN, "");
        Due.is("none", x.never(), 0);
        x.seen(0, 0, 0);
        Due.is("none, though it comes out so", x.never(), 0);
    }

    private static void neverWithoutSeen() {
        Due.of("24: all that was SEEN");
        RosetteShow x = new RosetteShow();
        for (int i = 0; i < 8; i++) {
            Due.is("event", x.event(i % 3, i, i), i + 1);
            Due.is("nothing is all", x.never(), (2 << i) - 1);
        }
    }

    private static void lookedFrom0To9() {
        Due.of("25: 0 to 9, its LOOKS at first, in place of its own, as bits");
        for (int other = 0; other <= 9; other++) {
            RosetteShow x = Due.show("s" + other + "0;s51", PLAIN, "");
            int more = 1023 & ~((2 << other) - 1);
            Due.is("nothing SEEN", x.looked(1), 1023);
            x.seen(0, 1, 0);
            Due.is("FIRST by more than " + other, x.looked(1), more);
            x.forget();
            x.seen(0, 1, 1);
            Due.is("SECOND by " + other + " at most", x.looked(1), 1023 - more);
            x.forget();
            x.seen(0, 0, 0);
            Due.is("the first by 5 on", x.looked(0), 1023 - 31);
        }
    }

    private static void lookedByAllThatWasSeen() {
        Due.of("25: likewise (all that was SEEN)");
        RosetteShow x = Due.show("s90;s80;s50;s51", PLAIN, "");
        x.seen(0, 3, 2);
        Due.is("THIRD", x.looked(3), 1 << 6 | 1 << 7 | 1 << 8);
        x.seen(0, 2, 3);
        Due.is("and what that leaves", x.looked(3), 1 << 6 | 1 << 7 | 1 << 8);
        x.seen(1, 3, 3);
        Due.is("both cannot be", x.looked(3), 0);
        x.forget();
        x.seen(0, 3, 3);
        Due.is("not placed", x.looked(3), 63);
        x.forget();
        x.seen(0, 3, 1);
        Due.is("SECOND", x.looked(3), 512);
        x.forget();
        x.seen(0, 3, 0);
        Due.is("FIRST", x.looked(3), 0);
    }

    private static void lookedInTheLastWeek() {
        Due.of("25: in a WEEK (0 to 11)");
        RosetteShow x = Due.show("s50;s51", PLAIN, "");
        x.event(0, 11, 1);
        x.seen(11, 1, 0);
        Due.is("groomed it has 6", x.looked(1), 1023 - 15);
        x.seen(10, 1, 1);
        Due.is("and had 5 at most", x.looked(1), 1 << 4 | 1 << 5);
    }

    private static void lookedOfTheTenth() {
        Due.of("25: of a THING");
        RosetteShow x = Due.show(NINE + ";s91", PLAIN, "");
        x.seen(0, 9, 3);
        Due.is("the tenth", x.looked(9), 15);
        Due.is("another", x.looked(0), 0);
        x.forget();
        x.seen(0, 9, 0);
        Due.is("the tenth", x.looked(9), 1023 - 15);
        Due.is("twice", x.looked(9), 1023 - 15);
        Due.is("its LOOKS are as told", x.at(0, 9, 0), 9);
    }

    private static void lookedGroomed() {
        Due.of("9 at most");
        RosetteShow x = Due.show("s80;s11", PLAIN, "");
        x.event(0, 0, 1);
        x.seen(0, 1, 0);
        Due.is("7, 8 and 9 have 9", x.looked(1), 1 << 7 | 1 << 8 | 1 << 9);
    }

    private static void tastesOfEach() {
        Due.of("26: 0 s, 1 c, 2 w, in place of its own, as bits");
        for (int sort = 0; sort < 3; sort++) {
            RosetteShow x = Due.show("s50;c51;w52", "scw".charAt((sort + 1) % 3) + "14", "");
            Due.is("nothing SEEN", x.tastes(0), 7);
            x.seen(0, sort, 0);
            Due.is("TASTE of " + sort, x.tastes(0), 1 << sort);
            x.forget();
            x.seen(0, sort, 3);
            Due.is("it is placed", x.tastes(0), 0);
            Due.is("the TASTE is as told", x.judge(0, 0), (sort + 1) % 3);
        }
    }

    private static void tastesOfTheFourthInTheLastWeek() {
        Due.of("26: TASTES of a JUDGE");
        // The street is FIRST by the others; the cat, once SECOND, has 4 in the last WEEK.
        RosetteShow x = Due.show("s50;c51;w52", "s15;s15;s15;s35", "000000000003");
        for (int sort = 0; sort < 3; sort++) {
            x.forget();
            x.seen(11, sort, 0);
            Due.is("FIRST is " + sort, x.tastes(3), 1 << sort);
        }
    }

    private static void tastesOfOneWithoutTheBox() {
        Due.of("26: in place of its own, likewise");
        RosetteShow x = Due.show("s50;c51", "s15;c15", "");
        x.seen(0, 0, 0);
        Due.is("comes out so by any", x.tastes(1), 7);
        x.seen(0, 1, 0);
        Due.is("comes out so by none", x.tastes(1), 0);
    }

    private static void askOfLikeOnes() {
        Due.of("27: of like ones the least");
        RosetteShow x = Due.show("s50;s51", PLAIN, "");
        Due.is("all WEEKS are like", x.ask(1), 0);
        RosetteShow y = Due.show("s50;s51", "", "");
        Due.is("all WEEKS are without a judge", y.ask(1), 0);
        RosetteShow z = Due.show("s50", PLAIN, "11");
        Due.is("placed alike by all, whatever the WEEK", z.ask(0), 0);
    }

    private static void askInTheLastWeek() {
        Due.of("27: the WEEK in which the greatest number is least");
        for (int week = 0; week < 12; week++) {
            StringBuilder box = new StringBuilder("111111111111");
            box.setCharAt(week, '0');
            RosetteShow x = Due.show("s50;s51", PLAIN, box.toString());
            Due.is("the one WEEK that has a judge", x.ask(1), week);
        }
    }

    private static void askOfNoneAndOfOne() {
        Due.of("27: of those of LOOKED");
        RosetteShow x = Due.show("s80;s51", PLAIN, "1110");
        Due.is("when a judge is there", x.ask(1), 3);
        x.seen(3, 1, 0);
        Due.is("LOOKED is 9", x.looked(1), 512);
        Due.is("one is one in any WEEK", x.ask(1), 0);
        x.seen(3, 1, 1);
        Due.is("LOOKED is none", x.looked(1), 0);
        Due.is("none is none in any WEEK", x.ask(1), 0);
    }

    private static void askWithTheLeastAndTheMostLooks() {
        Due.of("27: the greatest number of those of LOOKED by which it is placed alike");
        // In the WEEK without the second one only LOOKS 0 is SECOND; in that without the first one only 9 is FIRST.
        for (int without = 0; without < 2; without++) {
            RosetteShow x = Due.show("s00;s80;s51", PLAIN, "001111111111");
            x.event(1, 0, without);
            x.event(1, 1, 1 - without);
            Due.is("9 of 10 in either WEEK", x.ask(2), 0);
            x.seen(without, 2, 0);
            Due.is("FIRST ahead of the second one: 9 alone", x.looked(2), 512);
            x.forget();
            x.seen(1 - without, 2, 0);
            Due.is("FIRST ahead of the first one: 1 to 9", x.looked(2), 1022);
            Due.is("that WEEK is known, the other one tells 9", x.ask(2), without);
        }
    }

    private static void askBySeveralPlaces() {
        Due.of("27: placed alike");
        // Of LOOKS 0 to 9: 0 to 5 not placed, 6 to 8 THIRD, 9 SECOND; KEPT in it is not placed by all ten.
        RosetteShow x = Due.show("s90;s80;s50;s51", PLAIN, "");
        x.event(1, 0, 3);
        Due.is("6 of 10", x.ask(3), 1);
        x.event(1, 2, 0);
        // Without the first one it comes one place further in that WEEK by each of them.
        Due.is("6, 3 and 1 again", x.ask(3), 1);
        x.event(0, 3, 3);
        // Groomed by 2: 0 to 3 not placed, 4 to 6 THIRD, 7 to 9 SECOND.
        Due.is("4, 3 and 3", x.ask(3), 3);
        x.seen(3, 3, 2);
        // Of 4, 5 and 6 only 6 was THIRD ahead of the grooming.
        Due.is("2 and 1", x.ask(3), 1);
    }

    private static void noSuchThingOrJudge() {
        Due.of("25 to 27: BAD");
        RosetteShow x = Due.show("s50;s41", "s10;s10", "");
        for (int wrong : new int[] {-1, 2, 9, LEAST, MOST}) {
            Due.is("looked " + wrong, x.looked(wrong), -2);
            Due.is("tastes " + wrong, x.tastes(wrong), -2);
            Due.is("ask " + wrong, x.ask(wrong), -2);
        }
        Due.is("the last THING", x.looked(1), 1023);
        Due.is("the last JUDGE", x.tastes(1), 7);
        Due.is("the last THING", x.ask(1), 0);
    }
}
