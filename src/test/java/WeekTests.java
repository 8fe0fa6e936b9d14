/** Promises 11 to 17. */
final class WeekTests {
    public static void main(String[] args) {
        aYear();
        noJudge();
        noThings();
        rain();
        grooming();
        keeping();
        scores();
        catsSecond();
        wallsFall();
        ofLikeOnes();
        wrongNumbers();
        Due.end();
    }

    /** A wall is FIRST three times and FALLS; then a street leads, and a cat loses its looks by being SECOND twice. */
    private static void aYear() {
        RosetteShow x = Due.show("s50;c50;w40;s13", "w23", "");
        int[][] placed = {{2, 0, 1}, {2, 0, 1}, {2, 0, 1}, {0, 1, 3}, {0, 1, 3}, {0, 3, 1}};
        for (int week = 0; week < 12; week++) {
            for (int place = 0; place < 3; place++) {
                Due.is("place(" + week + ", " + place + ")", x.place(week, place), placed[Math.min(week, 5)][place]);
            }
            Due.is("judge in " + week, x.show(week, 0), 0);
            Due.is("shown in " + week, x.show(week, 1), week < 3 ? 4 : 3);
            Due.is("wall's score in " + week, x.at(week, 2, 4), week < 3 ? 6 + week : -1);
            Due.is("wall FIRST by " + week, x.at(week, 2, 2), Math.min(week + 1, 3));
            Due.is("wall FELL by " + week, x.at(week, 2, 3), week < 2 ? 0 : 1);
            Due.is("wall's COLOUR by " + week, x.at(week, 2, 1), Math.min(3 * week + 3, 9));
            Due.is("cat's LOOKS by " + week, x.at(week, 1, 0), week < 3 ? 5 : week == 3 ? 4 : 3);
            Due.is("street FELL by " + week, x.at(week, 0, 3), 0);
        }
        Due.is("cat's score in 4", x.at(4, 1, 4), 4);
        Due.is("cat's score in 5", x.at(5, 1, 4), 3);
        Due.is("street FIRST", x.at(11, 0, 2), 9);
        int[] colours = {33, 14, 9, 16};
        for (int t = 0; t < 4; t++) {
            Due.is("COLOUR of " + t, x.at(11, t, 1), colours[t]);
        }
        Due.is("owned 0", x.owned(0), 56);
        Due.is("owned 1", x.owned(1), 0);
        Due.is("owned 3", x.owned(3), 16);
        Due.is("champion", x.champion(), 0);
        Due.is("best", x.best(), 0);
        Due.is("FALLEN", x.left(0), 4);
        Due.is("BARE", x.left(1), 0);
    }

    private static void noJudge() {
        RosetteShow x = Due.show("s50;c51", "s10", "3010");
        int[] judges = {-1, 0, -1, 0, 0};
        for (int week = 0; week < 12; week++) {
            int judge = judges[Math.min(week, 4)];
            Due.is("judge in " + week, x.show(week, 0), judge);
            Due.is("shown in " + week, x.show(week, 1), judge < 0 ? 0 : 2);
            Due.is("FIRST in " + week, x.place(week, 0), judge < 0 ? -1 : 0);
            Due.is("score in " + week, x.at(week, 1, 4), judge < 0 ? -1 : week == 1 ? 5 : week == 3 ? 4 : Math.max(0, 7 - week));
        }
        x.event(2, 2, 0);
        Due.is("it rains without a judge", x.at(2, 0, 1), 2);
        x.wipe(1);
        Due.is("no judges", x.show(11, 0), -1);
        Due.is("BARE", x.left(1), 3);
        Due.is("best of like ones", x.best(), 0);
        Due.is("champion of none", x.champion(), 0);
    }

    private static void noThings() {
        RosetteShow x = Due.show("", "s10", "");
        Due.is("judge", x.show(0, 0), 0);
        Due.is("shown", x.show(0, 1), 0);
        Due.is("place", x.place(0, 0), -1);
        Due.is("best", x.best(), -1);
        Due.is("champion", x.champion(), 0);
        Due.is("FALLEN", x.left(0), 0);
        Due.is("BARE", x.left(1), 0);
    }

    private static void rain() {
        RosetteShow x = Due.show("s50;c50;c15", "w13", "");
        x.event(2, 0, 7);
        x.event(2, 2, 0);
        x.event(2, 2, 9);
        Due.is("COLOUR is 0 at least", x.at(0, 0, 1), 3);
        Due.is("cat by 2 less in RAIN", x.at(0, 1, 4), 3);
        Due.is("not below 0", x.at(0, 2, 4), 0);
        Due.is("street as ever", x.at(0, 0, 4), 5);
        Due.is("LOOKS stay in RAIN, one less by SECOND", x.at(0, 1, 0), 4);
        Due.is("cat without RAIN", x.at(1, 1, 4), 4);
        Due.is("COLOUR by 1", x.at(1, 0, 1), 6);
        Due.is("RAIN twice takes 2", x.at(2, 0, 1), 7);
        Due.is("RAIN twice takes 2 of SECOND", x.at(2, 1, 1), 4);
        Due.is("RAIN twice takes 2 of THIRD", x.at(2, 2, 1), 1);
        Due.is("a cat's score by 2 alone", x.at(2, 1, 4), 1);
        RosetteShow y = Due.show("c15", "c45", "");
        y.event(2, 0, 0);
        Due.is("EYE and FRIEND come behind 0", y.at(0, 0, 4), 7);
    }

    private static void grooming() {
        RosetteShow x = Due.show("s60;s81", "w13", "");
        x.event(0, 3, 0);
        x.event(0, 5, 0);
        x.event(0, 3, 9);
        Due.is("before", x.at(2, 0, 0), 6);
        Due.is("more by 2", x.at(3, 0, 0), 8);
        Due.is("score of it", x.at(3, 0, 4), 8);
        Due.is("FIRST by it", x.place(3, 0), 0);
        Due.is("9 at most", x.at(5, 0, 0), 9);
        Due.is("the other one", x.at(11, 1, 0), 8);
        x.event(0, 0, 1);
        x.event(0, 0, 1);
        Due.is("twice in a WEEK", x.at(0, 1, 0), 9);
    }

    private static void keeping() {
        RosetteShow x = Due.show("s60;s51;s42;s33", "w15", "");
        x.event(1, 1, 0);
        x.event(1, 1, 9);
        Due.is("score", x.at(1, 0, 4), -1);
        Due.is("shown", x.show(1, 1), 3);
        Due.is("FIRST", x.place(1, 0), 1);
        Due.is("THIRD", x.place(1, 2), 3);
        Due.is("COLOUR stays", x.at(1, 0, 1), 3);
        Due.is("shown again", x.show(2, 1), 4);
        Due.is("BARE", x.left(1), 0);
        x.back();
        x.back();
        Due.is("BARE without it", x.left(1), 8);
    }

    private static void scores() {
        RosetteShow x = Due.show("s10;c21;w32", "s90;c41;w12", "012");
        long[][] want = {{13, 2, 3}, {1, 9, 3}, {1, 2, 7}};
        for (int week = 0; week < 3; week++) {
            for (int t = 0; t < 3; t++) {
                Due.is("score of " + t + " in " + week, x.at(week, t, 4), want[week][t]);
            }
        }
        Due.is("FIRST in 0", x.place(0, 0), 0);
        Due.is("FIRST in 1", x.place(1, 0), 1);
        Due.is("FIRST in 2", x.place(2, 0), 2);
        Due.is("wall's score in 3 has its FIRST", x.at(3, 2, 4), 4);
        Due.is("cat's score has none, and it was SECOND", x.at(3, 1, 4), 1);
    }

    private static void catsSecond() {
        RosetteShow x = Due.show("c20;c20;c20", "s15", "");
        Due.is("FIRST keeps its LOOKS", x.at(11, 0, 0), 2);
        Due.is("SECOND loses 1", x.at(0, 1, 0), 1);
        Due.is("THIRD keeps its", x.at(0, 2, 0), 2);
        Due.is("SECOND then", x.place(1, 1), 2);
        Due.is("loses 1 too", x.at(1, 2, 0), 1);
        Due.is("SECOND again", x.place(2, 1), 1);
        Due.is("0 at least", x.at(11, 1, 0), 0);
        Due.is("0 at least", x.at(11, 2, 0), 0);
        RosetteShow y = Due.show("s20;s10;w10", "c15", "");
        Due.is("streets keep theirs", y.at(11, 1, 0), 1);
    }

    private static void wallsFall() {
        RosetteShow x = Due.show("w90;w80;s71", "w10", "");
        Due.is("FALLEN", x.left(0), 3);
        Due.is("first wall", x.at(2, 0, 3), 1);
        Due.is("second wall stands", x.at(4, 1, 3), 0);
        Due.is("second wall", x.at(5, 1, 3), 1);
        Due.is("street FIRST more often", x.at(11, 2, 2), 6);
        Due.is("street does not FALL", x.at(11, 2, 3), 0);
        x.event(2, 7, 0);
        Due.is("RAIN takes COLOUR of what FELL", x.at(11, 0, 1), 8);
        x.event(0, 7, 1);
        Due.is("what FELL is groomed", x.at(11, 1, 0), 9);
    }

    private static void ofLikeOnes() {
        RosetteShow x = Due.show("s35;s34;s33;s32", "w10", "");
        Due.is("FIRST", x.place(0, 0), 0);
        Due.is("SECOND", x.place(0, 1), 1);
        Due.is("THIRD", x.place(0, 2), 2);
        Due.is("BARE", x.left(1), 8);
        Due.is("champion", x.champion(), 5);
        for (int week = 0; week < 4; week++) {
            x.event(1, week, 0);
            x.event(1, week + 4, 0);
        }
        Due.is("COLOUR of 0", x.at(11, 0, 1), 12);
        Due.is("COLOUR of 1", x.at(11, 1, 1), 32);
        Due.is("best", x.best(), 1);
        Due.is("champion", x.champion(), 4);
        RosetteShow y = Due.show("s35;s34", "w15;w14", "010101010101");
        Due.is("like COLOURS", y.owned(5), y.owned(4));
        Due.is("best of like ones", y.best(), 0);
        Due.is("champion of like ones", y.champion(), 4);
    }

    private static void wrongNumbers() {
        RosetteShow x = Due.show("s50", "s10", "");
        Due.is("place(-1, 0)", x.place(-1, 0), -2);
        Due.is("place(12, 0)", x.place(12, 0), -2);
        Due.is("place(0, -1)", x.place(0, -1), -2);
        Due.is("place(0, 3)", x.place(0, 3), -2);
        Due.is("at(-1, 0, 0)", x.at(-1, 0, 0), -2);
        Due.is("at(12, 0, 0)", x.at(12, 0, 0), -2);
        Due.is("at(0, -1, 0)", x.at(0, -1, 0), -2);
        Due.is("at(0, 1, 0)", x.at(0, 1, 0), -2);
        Due.is("at(0, 0, -1)", x.at(0, 0, -1), -2);
        Due.is("at(0, 0, 5)", x.at(0, 0, 5), -2);
        Due.is("show(-1, 0)", x.show(-1, 0), -2);
        Due.is("show(12, 0)", x.show(12, 0), -2);
        Due.is("show(0, -1)", x.show(0, -1), -2);
        Due.is("show(0, 2)", x.show(0, 2), -2);
        Due.is("owned(-1)", x.owned(-1), -2);
        Due.is("owned(6)", x.owned(6), -2);
        Due.is("left(-1)", x.left(-1), -2);
        Due.is("left(2)", x.left(2), -2);
    }
}
