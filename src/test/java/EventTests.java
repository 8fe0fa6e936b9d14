/** Promises 8 to 10. */
final class EventTests {
    public static void main(String[] args) {
        telling();
        goingBack();
        reading();
        readingStops();
        Due.end();
    }

    private static void telling() {
        RosetteShow x = new RosetteShow();
        int[][] bad = {{-1, 0, 0}, {3, 0, 0}, {0, -1, 0}, {0, 12, 0}, {0, 0, -1}, {0, 0, 10}, {2, 0, 10}, {2, 0, -1}};
        for (int[] e : bad) {
            Due.is("event " + e[0] + " " + e[1] + " " + e[2], x.event(e[0], e[1], e[2]), -2);
        }
        Due.is("none came", x.count(6), 0);
        for (int i = 0; i < 8; i++) {
            Due.is("event", x.event(i % 3, 11 - i, 9 - i), i + 1);
        }
        Due.is("event 9", x.event(0, 0, 0), -4);
        Due.is("BAD is ahead of FULL", x.event(3, 0, 0), -2);
        Due.is("events", x.count(6), 8);
    }

    private static void goingBack() {
        RosetteShow x = Due.show("s10", "s10", "");
        x.event(0, 0, 0);
        x.event(0, 0, 0);
        Due.is("LOOKS of twice", x.at(0, 0, 0), 5);
        Due.is("back", x.back(), 1);
        Due.is("LOOKS of once", x.at(0, 0, 0), 3);
        Due.is("back", x.back(), 0);
        Due.is("LOOKS of none", x.at(0, 0, 0), 1);
        Due.is("back of none", x.back(), -3);
        Due.is("event again", x.event(1, 0, 0), 1);
    }

    private static void lay(RosetteShow x, int s, int form, int... items) {
        x.sheet(s, form, items.length);
        for (int i = 0; i < items.length; i++) {
            Due.is("lay", x.lay(s, form, i, items[i]), 1);
        }
    }

    private static void reading() {
        for (int form = 0; form < 3; form++) {
            RosetteShow x = Due.show("s10;s20", "s10", "");
            lay(x, 1, form, 0, 2, 1, 1, 3, 0, 0, 4);
            Due.is("read: what is whole", x.read(1), 2);
            Due.is("events", x.count(6), 2);
            Due.is("groomed in 2", x.at(2, 1, 0), 4);
            Due.is("shown in 2", x.show(2, 1), 2);
            Due.is("kept in 3", x.show(3, 1), 1);
        }
        RosetteShow x = new RosetteShow();
        Due.is("read(-1)", x.read(-1), -2);
        Due.is("read(4)", x.read(4), -2);
        Due.is("BAD is no FINDING", x.count(8), 0);
        Due.is("read of one that is LOST", x.read(3), -11);
        Due.is("NULL told", x.count(8), 1);
        lay(x, 3, 2);
        Due.is("read of none", x.read(3), 0);
        lay(x, 3, 2, 0, 0);
        Due.is("read of none whole", x.read(3), 0);
    }

    private static void readingStops() {
        int[][] bad = {{3, 0, 0}, {-1, 0, 0}, {0, 12, 0}, {0, -1, 0}, {0, 0, 10}, {0, 0, -1}};
        for (int[] e : bad) {
            RosetteShow x = new RosetteShow();
            lay(x, 0, 0, 2, 11, 9, e[0], e[1], e[2], 0, 0, 0);
            Due.is("read as long as each may be", x.read(0), 1);
            Due.is("events", x.count(6), 1);
        }
        RosetteShow x = new RosetteShow();
        x.sheet(0, 0, 60);
        x.event(0, 0, 0);
        Due.is("read as long as there is room", x.read(0), 7);
        Due.is("events", x.count(6), 8);
        Due.is("read without room", x.read(0), 0);
        Due.is("no FINDING", x.count(8), 0);
    }
}
