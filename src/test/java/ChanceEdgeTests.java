/** The edges that promises 28 and 29 and the Terms of FRACTIONS and LOTS name, each sentence by itself. */
final class ChanceEdgeTests {
    private static final int LEAST = Integer.MIN_VALUE;
    private static final int MOST = Integer.MAX_VALUE;
    private static final long BAD = Long.MIN_VALUE + 2;
    /** A judge whose TASTE and FRIEND no street or wall of owners other than 4 meets. */
    private static final String PLAIN = "c14";
    private static final String NINE = "s30;s30;s30;s30;s30;s30;s30;s30;s30";

    public static void main(String[] args) {
        withoutEvents();
        eachNumberOfSixteenths();
        neverAndAlways();
        eightEvents();
        zeroByOne();
        allTogetherAreOne();
        bestOfLikeOnes();
        inTheLastWeek();
        ofTheTenth();
        numbersNotAsTold();
        aRefusalIsALong();
        lotsOfASeed();
        lotsThatWrap();
        ofNoWeeks();
        ofAllWeeks();
        zeroInLaterWeeks();
        aJudgeWhoIsNotThere();
        bestOfNone();
        howManyFall();
        numbersOfYearsNotAsTold();
        Due.end();
    }

    private static void chance(RosetteShow x, int c, int thing, long above, long below) {
        Due.is("chance(" + c + ", " + thing + ", 0)", x.chance(c, thing, 0), above);
        Due.is("chance(" + c + ", " + thing + ", 1)", x.chance(c, thing, 1), below);
    }

    private static void withoutEvents() {
        Due.of("28: each of EVENTS (none)");
        RosetteShow x = Due.show("s50;s41", PLAIN, "");
        for (int c = 0; c <= 16; c++) {
            chance(x, c, 0, 1, 1);
            chance(x, c, 1, 0, 1);
        }
    }

    private static void eachNumberOfSixteenths() {
        Due.of("28: by c sixteenths (0 to 16); FRACTIONS are told in lowest terms");
        int[][] lowest = {{0, 1}, {1, 16}, {1, 8}, {3, 16}, {1, 4}, {5, 16}, {3, 8}, {7, 16}, {1, 2},
            {9, 16}, {5, 8}, {11, 16}, {3, 4}, {13, 16}, {7, 8}, {15, 16}, {1, 1}};
        RosetteShow x = Due.show("s50;s41", PLAIN, "");
        x.event(0, 0, 1);
        for (int c = 0; c <= 16; c++) {
            chance(x, c, 1, lowest[c][0], lowest[c][1]);
            chance(x, c, 0, lowest[16 - c][0], lowest[16 - c][1]);
        }
    }

    private static void neverAndAlways() {
        Due.of("28: (0 to 16)");
        RosetteShow x = Due.show("s50;s41;s32", PLAIN, "");
        for (int i = 0; i < 8; i++) {
            x.event(i < 2 ? 0 : 1, i < 2 ? 0 : i, i < 2 ? 2 : 0);
        }
        Due.is("BEST with all", x.best(), 2);
        for (int t = 0; t < 3; t++) {
            chance(x, 16, t, t == 2 ? 1 : 0, 1);
            chance(x, 0, t, t == 0 ? 1 : 0, 1);
        }
    }

    private static void eightEvents() {
        Due.of("EVENTS, 8 at most; FRACTIONS, above and below");
        RosetteShow x = Due.show("s50;s41", PLAIN, "");
        for (int i = 0; i < 8; i++) {
            x.event(0, 0, 1);
        }
        for (int c = 1; c < 16; c++) {
            long none = 1;
            long below = 1;
            for (int i = 0; i < 8; i++) {
                none *= 16 - c;
                below *= 16;
            }
            long above = below - none;
            while (none % 2 == 0) {
                none /= 2;
                above /= 2;
                below /= 2;
            }
            chance(x, c, 0, none, below);
            chance(x, c, 1, above, below);
        }
        chance(x, 15, 0, 1, 4294967296L);
        chance(x, 15, 1, 4294967295L, 4294967296L);
    }

    private static void zeroByOne() {
        Due.of("(0 by 1)");
        RosetteShow x = Due.show("s90;s10", PLAIN, "");
        for (int i = 0; i < 8; i++) {
            chance(x, 7, 1, 0, 1);
            chance(x, 7, 0, 1, 1);
            x.event(2, i, 0);
        }
        chance(x, 7, 1, 0, 1);
        chance(x, 7, 0, 1, 1);
    }

    private static void allTogetherAreOne() {
        Due.of("28: the chance that a THING is BEST");
        RosetteShow x = Due.show("s51;w52;c53;w40;s35", "w10;c22;s13", "0121");
        int[][] events = {{0, 0, 3}, {1, 1, 0}, {2, 2, 0}, {0, 3, 4}, {1, 4, 1}, {2, 9, 0}, {0, 9, 2}, {1, 11, 2}};
        for (int[] e : events) {
            x.event(e[0], e[1], e[2]);
            for (int c = 0; c <= 16; c++) {
                long whole = 0;
                for (int t = 0; t < 5; t++) {
                    whole += x.chance(c, t, 0) * (4294967296L / x.chance(c, t, 1));
                }
                Due.is("all by " + c, whole, 4294967296L);
            }
        }
    }

    private static void bestOfLikeOnes() {
        Due.of("28: BEST, of like ones the least");
        RosetteShow x = Due.show("s50;s41", PLAIN, "111111111111");
        x.event(0, 0, 1);
        chance(x, 5, 0, 1, 1);
        chance(x, 5, 1, 0, 1);
    }

    private static void inTheLastWeek() {
        Due.of("28: BEST behind WEEK 11");
        RosetteShow x = Due.show("s50;s41", PLAIN, "111111111110");
        x.event(0, 11, 1);
        chance(x, 5, 1, 5, 16);
        chance(x, 5, 0, 11, 16);
    }

    private static void ofTheTenth() {
        Due.of("28: that a THING is BEST (0 to 9)");
        RosetteShow x = Due.show(NINE + ";s25", PLAIN, "");
        x.event(0, 0, 9);
        chance(x, 3, 9, 3, 16);
        chance(x, 3, 9, 3, 16);
        chance(x, 3, 8, 0, 1);
        chance(x, 3, 0, 13, 16);
    }

    private static void numbersNotAsTold() {
        Due.of("28: BAD");
        RosetteShow x = Due.show("s50;s41", PLAIN, "");
        for (int wrong : new int[] {-1, 17, LEAST, MOST}) {
            Due.is("c " + wrong, x.chance(wrong, 0, 0), BAD);
        }
        for (int wrong : new int[] {-1, 2, 9, LEAST, MOST}) {
            Due.is("THING " + wrong, x.chance(0, wrong, 0), BAD);
            Due.is("what " + wrong, x.chance(0, 0, wrong), BAD);
        }
        Due.is("the last THING", x.chance(16, 1, 1), 1);
    }

    private static void aRefusalIsALong() {
        Due.of("Where the answer is a long, a refusal -x is the least long and x more");
        Due.is("BAD", new RosetteShow().chance(0, 0, 0), -9223372036854775806L);
    }

    /** Lots of 4 by some seeds, reckoned apart from any Java; the upper bits of many are above those of the greatest short. */
    private static final int[] SEEDS = {0, 1, 7, 5, 1000003, 123456789};
    private static final String[] LOTS = {"000123112210", "221333230213", "020231221113", "310110030010", "102133000112", "030113312021"};
    private static final int[] WRAPPING = {-1, -2, MOST, LEAST, -1103515245};
    private static final String[] WRAPPED = {"112212030211", "320002222112", "112212030211", "000123112210", "121321332220"};

    private static final String[][] SHOWS = {
        {"s50;s51;s52;s53", "c10;c11;c12;c13"},
        {"s53;s52;s51;s50", "c10;c11;c12;c13"},
        {"w50;w51;w52;w53", "c10;c11;c12;c13"},
        {"w90;s81;c72;w63;s04", "c15;s12;w33;s94"},
        {"c91;c92;c93;w80", "c15;w12;w23"},
        {"w90;w80;w70;w60", "c15"},
        {"s50;s51", "c10;c11"},
        {"s50;w41", "w10;w91"}};

    /** What a year draws is due to be the same as when the lots are typed as THE BOX. */
    private static void drawn(int seed, String lots, int n) {
        for (String[] told : SHOWS) {
            RosetteShow x = Due.show(told[0], told[1], "3213213213");
            int best = x.years(seed, n, 0);
            int fall = x.years(seed, n, 1);
            Due.tell(x, 2, lots.substring(0, n));
            Due.is("years(" + seed + ", " + n + ", 0) of " + told[0], best, x.best());
            Due.is("years(" + seed + ", " + n + ", 1) of " + told[0], fall, Integer.bitCount(x.left(0)));
        }
    }

    private static void lotsOfASeed() {
        Due.of("LOTS of m: its upper 16 bits as a number from 0 on, modulo m");
        for (int i = 0; i < SEEDS.length; i++) {
            for (int n = 0; n <= 12; n++) {
                drawn(SEEDS[i], LOTS[i], n);
            }
        }
    }

    private static void lotsThatWrap() {
        Due.of("SEED becomes 1103515245 SEED and 12345, as ints that wrap");
        for (int i = 0; i < WRAPPING.length; i++) {
            for (int n = 0; n <= 12; n++) {
                drawn(WRAPPING[i], WRAPPED[i], n);
            }
        }
    }

    private static void ofNoWeeks() {
        Due.of("29: of n WEEKS (0 to 12): none");
        RosetteShow x = Due.show("s50;s51", "c10;c11", "111111111111");
        Due.is("as told", x.best(), 1);
        for (int seed : WRAPPING) {
            Due.is("BEST by JUDGE 0 alone", x.years(seed, 0, 0), 0);
        }
    }

    private static void ofAllWeeks() {
        Due.of("29: of n WEEKS (0 to 12): all");
        // Of the lots of seed 1 that of WEEK 8 alone is 0.
        RosetteShow y = Due.show("w91", "c14", "000000000000");
        Due.is("as told it FALLS", y.left(0), 1);
        Due.is("one WEEK of lot 0", y.years(1, 12, 1), 0);
        Due.is("one WEEK, and one more", y.years(1, 11, 1), 0);
        Due.is("one WEEK, and two more", y.years(1, 10, 1), 1);
    }

    private static void zeroInLaterWeeks() {
        Due.of("29: in place of that told (0 in later ones)");
        RosetteShow x = Due.show("w90;w80;w70;w60", "c14", "333333333333");
        Due.is("none is there as told", x.left(0), 0);
        Due.is("twelve WEEKS of JUDGE 0", x.years(1, 0, 1), 4);
        Due.is("lots 2 2 1, then nine WEEKS", x.years(1, 3, 1), 3);
        Due.is("lots 2 2 1 3, then eight", x.years(1, 4, 1), 2);
        Due.is("the box is as told", x.show(11, 0), -1);
    }

    private static void aJudgeWhoIsNotThere() {
        Due.of("29: LOTS of 4 (however many JUDGES there are)");
        RosetteShow x = Due.show("w90", "", "");
        Due.is("no JUDGES: BEST", x.years(1, 12, 0), 0);
        Due.is("no JUDGES: FALL", x.years(1, 12, 1), 0);
        Due.tell(x, 1, "c14");
        Due.is("lots of seed 0 have four 0", x.years(0, 12, 1), 1);
        Due.is("lots of seed 7 have two", x.years(7, 12, 1), 0);
    }

    private static void bestOfNone() {
        Due.of("29: BEST (what = 0; NONE)");
        RosetteShow x = Due.show("", "c14", "");
        for (int n = 0; n <= 12; n++) {
            Due.is("BEST", x.years(n, n, 0), -1);
            Due.is("FALL", x.years(n, n, 1), 0);
        }
        Due.tell(x, 0, "w9");
        Due.is("with a FAULT", x.years(1, 1, 0), -1);
    }

    private static void howManyFall() {
        Due.of("29: how many FALL");
        Due.is("four, one in the last WEEK", Due.show("w90;w80;w70;w60;w50", "c14", "").years(9, 0, 1), 4);
        Due.is("three", Due.show("w90;w80;w70", "c14", "").years(9, 0, 1), 3);
        Due.is("none of streets and cats", Due.show("s90;c80;c70", "w14", "").years(9, 0, 1), 0);
    }

    private static void numbersOfYearsNotAsTold() {
        Due.of("29: BAD");
        RosetteShow x = Due.show("s50", PLAIN, "");
        for (int wrong : new int[] {-1, 13, LEAST, MOST}) {
            Due.is("n " + wrong, x.years(0, wrong, 0), -2);
        }
        for (int wrong : new int[] {-1, 2, LEAST, MOST}) {
            Due.is("what " + wrong, x.years(0, 0, wrong), -2);
        }
        for (int seed : WRAPPING) {
            Due.is("any SEED may be", x.years(seed, 12, 0), 0);
        }
    }
}
