/** Promises 22 to 27. */
final class SeenTests {
    public static void main(String[] args) {
        seeing();
        nevers();
        looks();
        tastes();
        asking();
        ofOneThatThereIsNot();
        wrongNumbers();
        Due.end();
    }

    private static void seeing() {
        RosetteShow x = new RosetteShow();
        int[][] bad = {{-1, 0, 0}, {12, 0, 0}, {0, -1, 0}, {0, 10, 0}, {0, 0, -1}, {0, 0, 4}};
        for (int[] s : bad) {
            Due.is("seen " + s[0] + " " + s[1] + " " + s[2], x.seen(s[0], s[1], s[2]), -2);
        }
        for (int i = 0; i < 8; i++) {
            Due.is("seen", x.seen(11 - i, 9 - i, i % 4), i + 1);
        }
        Due.is("seen 9", x.seen(0, 0, 0), -4);
        Due.is("BAD is ahead of FULL", x.seen(12, 0, 0), -2);
        Due.is("count 7", x.count(7), 8);
        Due.is("forget", x.forget(), 8);
        Due.is("forget again", x.forget(), 0);
        Due.is("count 7", x.count(7), 0);
        Due.is("seen again", x.seen(0, 0, 3), 1);
    }

    private static void nevers() {
        RosetteShow x = Due.show("s50;s41", "c15", "");
        Due.is("no EVENTS", x.never(), 0);
        x.event(0, 0, 1);
        x.event(1, 3, 1);
        x.event(2, 5, 0);
        Due.is("nothing SEEN: all", x.never(), 7);
        x.seen(1, 1, 0);
        Due.is("the grooming was", x.never(), 6);
        x.seen(3, 1, 3);
        Due.is("it was KEPT in, too", x.never(), 4);
        x.seen(3, 0, 0);
        x.seen(4, 0, 1);
        Due.is("all likewise", x.never(), 4);
        x.seen(4, 0, 0);
        Due.is("it cannot be", x.never(), 0);
        x.forget();
        x.seen(1, 1, 1);
        Due.is("the grooming never was", x.never(), 1);
        x.seen(3, 1, 1);
        Due.is("each alone", x.never(), 0);
        Due.is("EVENTS are as they were", x.count(6), 3);
    }

    private static void looks() {
        RosetteShow x = Due.show("s50;s31;s22", "c15", "");
        Due.is("nothing SEEN", x.looked(0), 1023);
        x.seen(0, 0, 0);
        Due.is("FIRST, with like ones", x.looked(0), 1023 - 7);
        x.forget();
        x.seen(0, 0, 1);
        Due.is("SECOND", x.looked(0), 1 << 2);
        x.seen(6, 0, 1);
        Due.is("SECOND for long", x.looked(0), 1 << 2);
        x.forget();
        x.seen(0, 2, 1);
        Due.is("of what is SEEN of another", x.looked(1), 1 << 0 | 1 << 1);
        x.seen(0, 2, 2);
        Due.is("in two places", x.looked(1), 0);
        Due.is("LOOKS are as they were", x.at(0, 0, 0), 5);
    }

    private static void tastes() {
        RosetteShow x = Due.show("s50;c51;w52", "s35;c35", "01");
        Due.is("nothing SEEN", x.tastes(0), 7);
        x.seen(0, 0, 0);
        Due.is("s", x.tastes(0), 1);
        Due.is("of the other one", x.tastes(1), 7);
        x.forget();
        x.seen(0, 1, 0);
        Due.is("c", x.tastes(0), 2);
        Due.is("not by the other one", x.tastes(1), 0);
        x.forget();
        x.seen(0, 2, 0);
        Due.is("w", x.tastes(0), 4);
        x.forget();
        x.seen(0, 0, 1);
        Due.is("c or w", x.tastes(0), 6);
        Due.is("TASTES are as they were", x.judge(0, 0), 0);
        // Week 1 has the other judge: LOOKS of the cat are 4 there behind a SECOND in WEEK 0.
        x.forget();
        x.seen(1, 1, 0);
        Due.is("the judge of WEEK 1", x.tastes(1), 2);
        x.forget();
        x.seen(11, 1, 0);
        Due.is("the judge of the last WEEK", x.tastes(0), 2);
    }

    private static void asking() {
        RosetteShow x = Due.show("s50;s31;s72", "c15", "");
        // Of LOOKS 0 to 9: 0 to 2 THIRD, 3 to 6 SECOND, 7 to 9 FIRST, in every WEEK.
        Due.is("all alike", x.ask(0), 0);
        x.event(1, 0, 0);
        Due.is("not when it is KEPT in", x.ask(0), 1);
        x.event(0, 3, 0);
        // Groomed by 2: 0 THIRD, 1 to 4 SECOND, 5 to 9 FIRST are worse; so WEEK 1 stays.
        Due.is("least of the greatest", x.ask(0), 1);
        x.event(1, 1, 0);
        x.event(1, 2, 0);
        Due.is("behind the grooming", x.ask(0), 3);
        x.seen(3, 0, 0);
        // 5 to 9 are FIRST by the grooming in each later WEEK; KEPT in ahead of it.
        Due.is("nothing more to learn", x.ask(0), 0);
        x.seen(3, 0, 1);
        Due.is("none is left", x.ask(0), 0);
        x = Due.show("s50;s81", "c15", "");
        x.event(1, 3, 1);
        x.event(0, 2, 0);
        // Till WEEK 1 8 of 10 are SECOND; groomed, 0 to 5 are so and 6 to 9 are FIRST.
        Due.is("4 and 6 are better than 2 and 8", x.ask(0), 2);
        x.seen(0, 0, 1);
        Due.is("of 0 to 7, 6 and 2 are better than 8", x.ask(0), 2);
        x.seen(2, 0, 1);
        Due.is("all are alike then", x.ask(0), 0);
        RosetteShow y = Due.show("c50;s71;s62;s53", "w15", "33");
        // No judge till WEEK 2: all alike there, 10; then 0 to 4 not placed, 5 THIRD, 6 SECOND by being the least, 7 on FIRST.
        Due.is("when a judge is there", y.ask(0), 2);
    }

    private static void ofOneThatThereIsNot() {
        RosetteShow x = Due.show("s50", "s10", "");
        x.event(2, 0, 0);
        for (int place = 0; place < 4; place++) {
            x.forget();
            x.seen(0, 1, place);
            Due.is("never", x.never(), 0);
            Due.is("looked", x.looked(0), 0);
            Due.is("tastes", x.tastes(0), 0);
            Due.is("ask", x.ask(0), 0);
        }
        Due.tell(x, 0, "s50;s40");
        x.forget();
        x.seen(0, 1, 1);
        Due.is("now there is one", x.never(), 1);
    }

    private static void wrongNumbers() {
        RosetteShow x = Due.show("s50", "s10", "");
        Due.is("looked(-1)", x.looked(-1), -2);
        Due.is("looked(1)", x.looked(1), -2);
        Due.is("tastes(-1)", x.tastes(-1), -2);
        Due.is("tastes(1)", x.tastes(1), -2);
        Due.is("ask(-1)", x.ask(-1), -2);
        Due.is("ask(1)", x.ask(1), -2);
    }
}
