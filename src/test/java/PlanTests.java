/** Promises 18 to 21. */
final class PlanTests {
    public static void main(String[] args) {
        brushing();
        brushWithoutUse();
        rivals();
        sending();
        sparing();
        wrongNumbers();
        Due.end();
    }

    private static void brushing() {
        // The second street leads by 1 from the WEEK on in which it is groomed, so the earlier the better.
        RosetteShow x = Due.show("s50;s41", "w15", "");
        Due.is("brush(1, 0)", x.brush(1, 0), 0);
        Due.is("brush(1, 1)", x.brush(1, 1), 36);
        Due.is("it was not groomed by that", x.at(0, 1, 0), 4);
        Due.is("brush(0, 1), no better than as it is", x.brush(0, 1), 36);
        // No judge is there till WEEK 3, so that WEEKS 0 to 3 are alike.
        x = Due.show("s50;s41", "w15", "111");
        Due.is("brush of like ones", x.brush(1, 0), 0);
        Due.is("how much", x.brush(1, 1), 27);
        // A cat that is SECOND loses what it was groomed by; it is best groomed when that makes it FIRST.
        x = Due.show("s50;c50", "w15", "");
        Due.is("cat groomed at first", x.brush(1, 0), 0);
        Due.is("cat groomed at first: how much", x.brush(1, 1), 36);
        // All 8 EVENTS are RAINS of WEEK 11: of 33 they leave 25, and the wet cat (7 and 3 to 11) is SECOND.
        x = Due.show("s80;c90", "w10", "");
        for (int i = 0; i < 8; i++) {
            x.event(2, 11, 0);
        }
        Due.is("whatever room: WEEK", x.brush(1, 0), 0);
        Due.is("whatever room: how much", x.brush(1, 1), 27);
    }

    private static void brushWithoutUse() {
        RosetteShow x = Due.show("s50;s41", "", "");
        Due.is("no judge: WEEK", x.brush(1, 0), 0);
        Due.is("no judge: how much", x.brush(1, 1), 0);
        // A wall that is FIRST too soon FALLS: it had better be groomed late.
        x = Due.show("w50;s65", "c14", "");
        Due.is("wall as it is", x.at(11, 0, 1), 24);
        Due.is("wall: WEEK", x.brush(0, 0), 9);
        Due.is("wall: how much", x.brush(0, 1), 27);
    }

    private static void rivals() {
        RosetteShow x = Due.show("s90;s81;s72;s63", "w15", "");
        Due.is("rival(3, 0) of like ones", x.rival(3, 0), 0);
        Due.is("rival(3, 1)", x.rival(3, 1), 12);
        Due.is("rival(2, 0)", x.rival(2, 0), 0);
        Due.is("rival(2, 1)", x.rival(2, 1), 24);
        Due.is("rival(1, 0)", x.rival(1, 0), 0);
        Due.is("rival(1, 1)", x.rival(1, 1), 36);
        Due.is("rival(0, 0), no better than as it is", x.rival(0, 0), 1);
        Due.is("rival(0, 1)", x.rival(0, 1), 36);
        Due.is("all are shown yet", x.show(5, 1), 4);
        x = Due.show("s90", "w15", "");
        Due.is("no other one: which", x.rival(0, 0), -1);
        Due.is("no other one: how much", x.rival(0, 1), -1);
        x = Due.show("s10;w90;s50", "w15", "");
        Due.is("not the wall that FALLS, but the street", x.rival(0, 0), 2);
        Due.is("how much then", x.rival(0, 1), 6 + 27);
    }

    private static void sending() {
        RosetteShow x = Due.show("s51;s52;s53", "c10;c12;c13;c13", "000000000000");
        Due.is("send to 2: which", x.send(4, 2, 0), 1);
        Due.is("send to 2: how much", x.send(4, 2, 1), 25);
        Due.is("send to 3: of like ones", x.send(4, 3, 0), 2);
        Due.is("send to 3: how much", x.send(4, 3, 1), 14);
        Due.is("send to 1, no better than as it is", x.send(4, 1, 0), 0);
        Due.is("send to 1: how much", x.send(4, 1, 1), 36);
        Due.is("send to one who owns none", x.send(4, 5, 1), 0);
        Due.is("the box is as it was", x.show(4, 0), 0);
        x = Due.show("s51;s52", "c12", "33");
        Due.is("behind the box", x.send(11, 2, 1), 30);
        Due.is("where none is there", x.send(1, 2, 0), 0);
        Due.is("how much then", x.send(1, 2, 1), 33);
        x = Due.show("s51", "", "");
        Due.is("no judges: which", x.send(0, 1, 0), -1);
        Due.is("no judges: how much", x.send(0, 1, 1), -1);
    }

    private static void spared(String name, RosetteShow x, int many, int first, int second) {
        Due.is(name + ": how many", x.spare(-1), many);
        Due.is(name + ": 0", x.spare(0), first);
        Due.is(name + ": 1", x.spare(1), second);
    }

    private static void sparing() {
        RosetteShow x = Due.show("w50;s95", "c14", "");
        spared("none falls", x, 0, -1, -1);
        x.event(2, 0, 0);
        x.event(0, 3, 0);
        spared("none falls with EVENTS", x, 0, -1, -1);
        x.event(0, 4, 0);
        x.event(2, 1, 0);
        x.event(0, 5, 0);
        // Groomed twice the wall has 9 as the street has, and is the least: two of three had better not be.
        spared("two of three", x, 2, 1, 2);
        x.back();
        spared("one of two", x, 1, 1, -1);
        x = Due.show("w90;s85", "c14", "");
        x.event(1, 0, 0);
        spared("it falls without EVENTS too", x, -1, -1, -1);
        x = new RosetteShow();
        spared("nothing at all", x, 0, -1, -1);
        x = Due.show("w90;s85", "c14", "001111111111");
        spared("two WEEKS of a judge", x, 0, -1, -1);
        // With the street KEPT in through 3 WEEKS the wall is FIRST; through 2 of them it is not so for a third time.
        x = Due.show("w00;s55", "c14", "");
        x.event(0, 11, 1);
        x.event(0, 2, 0);
        x.event(1, 0, 1);
        x.event(1, 1, 1);
        x.event(1, 2, 1);
        spared("the first that is of use", x, 1, 2, -1);
        x = Due.show("w50;s95", "c14", "");
        x.event(0, 3, 0);
        x.event(0, 4, 0);
        spared("the first of two", x, 1, 0, -1);
        x.event(0, 5, 0);
        spared("two from the first on", x, 2, 0, 1);
        // Once FIRST, the wall has as much as the street and is the least: the street may not be KEPT in at all.
        x = Due.show("w60;s75", "c14", "");
        x.event(2, 0, 0);
        x.event(2, 0, 0);
        x.event(1, 0, 1);
        x.event(1, 1, 1);
        spared("the last two", x, 2, 2, 3);
    }

    private static void wrongNumbers() {
        RosetteShow x = Due.show("s50", "s10", "");
        Due.is("brush(-1, 0)", x.brush(-1, 0), -2);
        Due.is("brush(1, 0)", x.brush(1, 0), -2);
        Due.is("brush(0, -1)", x.brush(0, -1), -2);
        Due.is("brush(0, 2)", x.brush(0, 2), -2);
        Due.is("rival(-1, 0)", x.rival(-1, 0), -2);
        Due.is("rival(1, 0)", x.rival(1, 0), -2);
        Due.is("rival(0, -1)", x.rival(0, -1), -2);
        Due.is("rival(0, 2)", x.rival(0, 2), -2);
        Due.is("send(-1, 0, 0)", x.send(-1, 0, 0), -2);
        Due.is("send(12, 0, 0)", x.send(12, 0, 0), -2);
        Due.is("send(0, -1, 0)", x.send(0, -1, 0), -2);
        Due.is("send(0, 6, 0)", x.send(0, 6, 0), -2);
        Due.is("send(0, 0, -1)", x.send(0, 0, -1), -2);
        Due.is("send(0, 0, 2)", x.send(0, 0, 2), -2);
        Due.is("spare(-2)", x.spare(-2), -2);
        Due.is("spare(2)", x.spare(2), -2);
    }
}
