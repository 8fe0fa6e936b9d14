/** The edges that promises 18 to 21 and the Terms of plans name, each sentence by itself. */
final class PlanEdgeTests {
    private static final int LEAST = Integer.MIN_VALUE;
    private static final int MOST = Integer.MAX_VALUE;
    /** A judge whose TASTE and FRIEND no street or wall of owners other than 4 meets. */
    private static final String PLAIN = "c14";
    private static final String TEN = "s00;s10;s20;s30;s40;s50;s60;s70;s80;s90";

    public static void main(String[] args) {
        brushOfLikeOnes();
        brushInTheLastWeek();
        brushWhateverRoom();
        brushBehindEventsOfTheWeek();
        brushWith9();
        brushWhenKeptIn();
        brushOfTheTenth();
        noOtherOne();
        rivalOfTwo();
        rivalOfTen();
        rivalThroughAllWeeks();
        rivalThatIsNoBetter();
        sendInEachWeek();
        sendOfLikeOnes();
        sendWhereNoneIs();
        sendWithoutJudges();
        sendWithoutThings();
        spareNone();
        spareOne();
        spareTwo();
        spareTheLeastRow();
        spareMoreThanTwo();
        spareInTheLastWeek();
        spareWithoutEvents();
        numbersNotAsTold();
        Due.end();
    }

    private static void brush(RosetteShow x, int thing, int which, int much) {
        Due.is("brush(" + thing + ", 0)", x.brush(thing, 0), which);
        Due.is("brush(" + thing + ", 1)", x.brush(thing, 1), much);
    }

    private static void rival(RosetteShow x, int thing, int which, int much) {
        Due.is("rival(" + thing + ", 0)", x.rival(thing, 0), which);
        Due.is("rival(" + thing + ", 1)", x.rival(thing, 1), much);
    }

    private static void send(RosetteShow x, int week, int owner, int which, int much) {
        Due.is("send(" + week + ", " + owner + ", 0)", x.send(week, owner, 0), which);
        Due.is("send(" + week + ", " + owner + ", 1)", x.send(week, owner, 1), much);
    }

    private static void spare(RosetteShow x, int many, int first, int second) {
        Due.is("spare(NONE)", x.spare(-1), many);
        Due.is("spare(0)", x.spare(0), first);
        Due.is("spare(1)", x.spare(1), second);
    }

    private static void brushOfLikeOnes() {
        Due.of("18: the WEEK in which it had better be GROOMED, of like ones the least");
        brush(Due.show("s50;s41", PLAIN, "11111"), 1, 0, 21);
        brush(Due.show("s50;s31", PLAIN, ""), 1, 0, 24);
        brush(Due.show("s50", "", ""), 0, 0, 0);
    }

    private static void brushInTheLastWeek() {
        Due.of("18: so that its COLOUR is most behind WEEK 11");
        // FIRST twice at first the wall has 7; groomed it is FIRST for the third time at once, and FALLS: the later the better.
        RosetteShow x = Due.show("w50;s85", PLAIN, "");
        x.event(1, 0, 1);
        x.event(1, 1, 1);
        Due.is("as it is", x.at(11, 0, 1), 26);
        brush(x, 0, 11, 27);
        // Without a judge in WEEK 11 that comes one WEEK sooner.
        Due.tell(x, 2, "000000000001");
        brush(x, 0, 10, 25);
        Due.is("it was not groomed by that", x.at(11, 0, 0), 5);
        Due.is("EVENTS", x.count(6), 2);
    }

    private static void brushWhateverRoom() {
        Due.of("18: (whatever room)");
        RosetteShow x = Due.show("s50;s41", PLAIN, "");
        for (int i = 0; i < 8; i++) {
            x.event(1, 11, 9);
        }
        Due.is("no room", x.event(0, 0, 1), -4);
        brush(x, 1, 0, 36);
        Due.is("EVENTS", x.count(6), 8);
    }

    private static void brushBehindEventsOfTheWeek() {
        Due.of("18: once more, behind all EVENTS of it");
        RosetteShow x = Due.show("s90;s31", PLAIN, "");
        x.event(0, 0, 1);
        x.event(0, 0, 1);
        Due.is("groomed twice it has 7", x.at(0, 1, 0), 7);
        brush(x, 1, 0, 24);
        x = Due.show("s80;s31", PLAIN, "");
        x.event(0, 4, 1);
        x.event(0, 4, 1);
        brush(x, 1, 0, 4 * 2 + 8 * 3);
    }

    private static void brushWith9() {
        Due.of("9 at most; 18: (Also if it is no better than as it is.)");
        RosetteShow x = Due.show("s90;s91", PLAIN, "");
        brush(x, 1, 0, 24);
        brush(x, 0, 0, 36);
        // The cat has 9, 8, 7 and, behind three times SECOND, 6: it gains nothing in WEEK 0, 1 in WEEK 1, and 2 from WEEK 2 on.
        x = Due.show("s90;c91;s72", "w14", "");
        Due.is("as it is", x.at(11, 1, 1), 2 + 2 + 2 + 9);
        brush(x, 1, 2, 2 * 5 + 7);
    }

    private static void brushWhenKeptIn() {
        Due.of("18: of like ones the least");
        RosetteShow x = Due.show("s50;s41", PLAIN, "");
        x.event(1, 0, 1);
        brush(x, 1, 0, 33);
        for (int week = 1; week < 8; week++) {
            x.event(1, week, 1);
        }
        brush(x, 1, 0, 12);
    }

    private static void brushOfTheTenth() {
        Due.of("10 at most (0 on)");
        RosetteShow x = Due.show("s00;s10;s20;s30;s40;s50;s60;s70;s80;s55", PLAIN, "");
        brush(x, 9, 0, 12);
        brush(x, 0, 0, 0);
    }

    private static void noOtherOne() {
        Due.of("19: NONE: there is no other one");
        RosetteShow x = Due.show("s90", PLAIN, "");
        rival(x, 0, -1, -1);
        x.type(0, ';');
        Due.is("with a FAULT there is not even this one", x.rival(0, 0), -2);
    }

    private static void rivalOfTwo() {
        Due.of("19: the other THING");
        RosetteShow x = Due.show("s90;s81", PLAIN, "");
        rival(x, 0, 1, 36);
        rival(x, 1, 0, 36);
        rival(Due.show("s90;s81", "", ""), 1, 0, 0);
    }

    private static void rivalOfTen() {
        Due.of("19: of like ones the least");
        RosetteShow x = Due.show(TEN, PLAIN, "");
        rival(x, 0, 1, 0);
        rival(x, 5, 0, 0);
        rival(x, 6, 7, 12);
        rival(x, 7, 8, 24);
        rival(x, 8, 9, 36);
        rival(x, 9, 0, 36);
    }

    private static void rivalThroughAllWeeks() {
        Due.of("19: KEPT in through all WEEKS");
        RosetteShow x = Due.show("s90;s81", PLAIN, "111111111110");
        rival(x, 1, 0, 3);
        x = Due.show("s90;s81", PLAIN, "011111111111");
        rival(x, 1, 0, 3);
        x = Due.show("s90;s81", PLAIN, "");
        for (int i = 0; i < 8; i++) {
            x.event(1, i, 0);
        }
        rival(x, 1, 0, 36);
        Due.is("as told it is shown in 8", x.at(8, 0, 4), 9);
    }

    private static void rivalThatIsNoBetter() {
        Due.of("19: (Also if it is no better than as it is.)");
        // The wall FALLS behind 3 WEEKS if the street is away, and is SECOND for ever if it is not.
        RosetteShow x = Due.show("w50;s85", PLAIN, "");
        Due.is("as it is", x.at(11, 0, 1), 24);
        rival(x, 0, 1, 9);
    }

    private static void sendInEachWeek() {
        Due.of("20: SEND in a WEEK: the JUDGE who had better have the box then");
        for (int week = 0; week < 12; week++) {
            RosetteShow x = Due.show("s51;s52", "c10;c10;c10;c12", "");
            send(x, week, 2, 3, 25);
            Due.tell(x, 2, "333333333333");
            send(x, week, 1, 0, 25);
            Due.is("the box is as told", x.show(week, 0), 3);
        }
    }

    private static void sendOfLikeOnes() {
        Due.of("20: of like ones the least; (Also if it is no better than as it is.)");
        RosetteShow x = Due.show("s51;s52", "c10;c12;c12;c13", "333");
        send(x, 0, 1, 0, 36);
        send(x, 0, 2, 1, 25);
        send(x, 0, 0, 0, 0);
        send(x, 0, 5, 0, 0);
        send(x, 11, 2, 1, 25);
    }

    private static void sendWhereNoneIs() {
        Due.of("20: the JUDGE (that there is)");
        RosetteShow x = Due.show("s51", "c10;c10", "232323232323");
        Due.is("none is ever there", x.owned(1), 0);
        send(x, 0, 1, 0, 3);
        send(x, 11, 1, 0, 3);
    }

    private static void sendWithoutJudges() {
        Due.of("20: NONE: there are none");
        RosetteShow x = Due.show("s51", "", "0");
        send(x, 0, 1, -1, -1);
        x.type(1, 's');
        send(x, 11, 1, -1, -1);
        Due.is("BAD is ahead of it", x.send(12, 1, 0), -2);
    }

    private static void sendWithoutThings() {
        Due.of("20: so that most is OWNED by that one");
        send(Due.show("", "c10;c10", ""), 4, 3, 0, 0);
    }

    private static void spareNone() {
        Due.of("21: the fewest EVENTS (0 to 2): how many; the i-th (0, 1; NONE)");
        RosetteShow x = Due.show("s90;c81", PLAIN, "");
        spare(x, 0, -1, -1);
        for (int i = 0; i < 8; i++) {
            x.event(0, i, 0);
        }
        spare(x, 0, -1, -1);
    }

    private static void spareOne() {
        Due.of("21: of like ones the least row: one");
        for (int at = 0; at < 8; at++) {
            RosetteShow x = Due.show("w70;s85", PLAIN, "");
            for (int i = 0; i < 8; i++) {
                x.event(i == at ? 0 : 2, 3, 0);
            }
            spare(x, 1, at, -1);
        }
        // Three WEEKS without the street: any two of them leave the wall with 7, below it.
        RosetteShow x = Due.show("w50;s85", PLAIN, "");
        for (int i = 0; i < 3; i++) {
            x.event(1, i, 1);
        }
        spare(x, 1, 0, -1);
    }

    private static void spareTwo() {
        Due.of("21: (each more than the one ahead)");
        // Once FIRST the wall is so for ever, so that both must not be.
        for (int a = 0; a < 8; a++) {
            for (int b = a + 1; b < 8; b++) {
                RosetteShow x = Due.show("w60;s75", PLAIN, "");
                for (int i = 0; i < 8; i++) {
                    x.event(i == a || i == b ? 1 : 2, i, 1);
                }
                spare(x, 2, a, b);
            }
        }
    }

    private static void spareTheLeastRow() {
        Due.of("21: of like ones the least row");
        // The street is away in WEEKS 0 and 1, each told twice: one WEEK had better not be.
        RosetteShow x = Due.show("w50;s75", PLAIN, "");
        for (int week : new int[] {0, 1, 1, 0}) {
            x.event(1, week, 1);
        }
        spare(x, 2, 0, 3);
        x = Due.show("w50;s75", PLAIN, "");
        for (int week : new int[] {1, 0, 0, 3, 3, 3, 3, 1}) {
            x.event(week == 3 ? 2 : 1, week, 1);
        }
        spare(x, 2, 0, 7);
    }

    private static void spareMoreThanTwo() {
        Due.of("21: NONE");
        RosetteShow x = Due.show("w60;s75", PLAIN, "");
        x.event(1, 0, 1);
        x.event(1, 1, 1);
        spare(x, 2, 0, 1);
        x.event(1, 2, 1);
        spare(x, -1, -1, -1);
        Due.is("BAD is ahead of it", x.spare(2), -2);
    }

    private static void spareInTheLastWeek() {
        Due.of("21: so that no wall FALLS");
        RosetteShow x = Due.show("w50;s85", PLAIN, "");
        for (int week = 9; week < 12; week++) {
            x.event(1, week, 1);
        }
        Due.is("it FALLS in the last WEEK", x.left(0), 1);
        spare(x, 1, 0, -1);
        // Two walls, of which the second FALLS whatever is not told.
        x = Due.show("w60;w91;s72", PLAIN, "");
        x.event(1, 3, 2);
        spare(x, -1, -1, -1);
    }

    private static void spareWithoutEvents() {
        Due.of("21: the fewest EVENTS (0 to 2) that had better not be; NONE");
        spare(Due.show("w90", PLAIN, ""), -1, -1, -1);
        spare(Due.show("w90", "", ""), 0, -1, -1);
        RosetteShow x = Due.show("w90", PLAIN, "");
        x.event(2, 0, 0);
        spare(x, -1, -1, -1);
        x.event(1, 0, 0);
        spare(x, -1, -1, -1);
    }

    private static void numbersNotAsTold() {
        Due.of("18 to 21: BAD");
        RosetteShow x = Due.show("s50;s41", PLAIN, "");
        for (int wrong : new int[] {-1, 2, 9, LEAST, MOST}) {
            Due.is("brush THING " + wrong, x.brush(wrong, 0), -2);
            Due.is("brush what " + wrong, x.brush(0, wrong), -2);
            Due.is("rival THING " + wrong, x.rival(wrong, 0), -2);
            Due.is("rival what " + wrong, x.rival(0, wrong), -2);
            Due.is("send what " + wrong, x.send(0, 0, wrong), -2);
        }
        for (int wrong : new int[] {-1, 12, LEAST, MOST}) {
            Due.is("send WEEK " + wrong, x.send(wrong, 0, 0), -2);
        }
        for (int wrong : new int[] {-1, 6, LEAST, MOST}) {
            Due.is("send for " + wrong, x.send(0, wrong, 0), -2);
        }
        for (int wrong : new int[] {-2, 2, LEAST, MOST}) {
            Due.is("spare " + wrong, x.spare(wrong), -2);
        }
        Due.is("the last THING", x.brush(1, 0), 0);
        Due.is("the last owner and WEEK", x.send(11, 5, 1), 0);
        Due.is("what 2 of one alone", Due.show("s50", PLAIN, "").rival(0, 2), -2);
    }
}
