/** The edges that promises 8 to 10 and the Terms of EVENTS name, each sentence by itself. */
final class EventEdgeTests {
    private static final int LEAST = Integer.MIN_VALUE;
    private static final int MOST = Integer.MAX_VALUE;

    public static void main(String[] args) {
        theLeastAndTheMost();
        numbersNotAsTold();
        eightAtMost();
        aFullRowStays();
        whicheverThingIsTold();
        ofAThingThatThereIsNot();
        undoneToTheLast();
        asManyAsAreWhole();
        asLongAsEachMayBe();
        asLongAsThereIsRoom();
        fromEachForm();
        whatReadLeaves();
        readOfNoSheet();
        Due.end();
    }

    private static void theLeastAndTheMost() {
        Due.of("WEEKS are 0 to 11; a kind, a WEEK, a THING (0 to 9)");
        RosetteShow x = new RosetteShow();
        Due.is("the least", x.event(0, 0, 0), 1);
        Due.is("the greatest kind", x.event(2, 0, 0), 2);
        Due.is("the greatest WEEK", x.event(0, 11, 0), 3);
        Due.is("the greatest THING", x.event(1, 0, 9), 4);
        Due.is("the greatest", x.event(2, 11, 9), 5);
    }

    private static void numbersNotAsTold() {
        Due.of("8: BAD");
        RosetteShow x = Due.show("s50", "s10", "");
        for (int wrong : new int[] {-1, LEAST, MOST}) {
            Due.is("kind " + wrong, x.event(wrong, 0, 0), -2);
            Due.is("WEEK " + wrong, x.event(0, wrong, 0), -2);
            Due.is("THING " + wrong, x.event(0, 0, wrong), -2);
        }
        Due.is("kind 3", x.event(3, 11, 9), -2);
        Due.is("WEEK 12", x.event(2, 12, 9), -2);
        Due.is("THING 10", x.event(2, 11, 10), -2);
        Due.is("THING 10 of a RAIN", x.event(2, 0, 10), -2);
        Due.is("THING -1 of a RAIN", x.event(2, 0, -1), -2);
        Due.is("none came", x.count(6), 0);
    }

    private static void eightAtMost() {
        Due.of("EVENTS, 8 at most; 8: FULL");
        RosetteShow x = new RosetteShow();
        for (int i = 1; i <= 8; i++) {
            Due.is("event", x.event(0, 0, 0), i);
        }
        Due.is("a ninth", x.event(0, 0, 0), -4);
        Due.is("BAD is ahead of FULL", x.event(0, 0, 10), -2);
        Due.is("how many", x.count(6), 8);
        Due.is("back", x.back(), 7);
        Due.is("room again", x.event(1, 1, 1), 8);
        Due.is("and no more", x.event(1, 1, 1), -4);
    }

    private static void aFullRowStays() {
        Due.of("They change nothing");
        RosetteShow x = Due.show("s10;s00", "c15", "");
        for (int week = 0; week < 8; week++) {
            x.event(1, week, 0);
        }
        long before = x.digest();
        Due.is("a ninth", x.event(0, 8, 1), -4);
        Due.is("it is not groomed", x.at(11, 1, 0), 0);
        Due.is("digest", x.digest(), before);
        Due.is("the eighth is there", x.at(7, 0, 4), -1);
        Due.is("the first is there", x.at(0, 0, 4), -1);
    }

    private static void whicheverThingIsTold() {
        Due.of("2 a RAIN (whichever THING is told)");
        for (int told = 0; told < 10; told++) {
            RosetteShow x = Due.show("s50;s41", "c15", "");
            x.event(2, 1, told);
            Due.is("COLOUR of 0", x.at(1, 0, 1), 5);
            Due.is("COLOUR of 1", x.at(1, 1, 1), 3);
        }
    }

    private static void ofAThingThatThereIsNot() {
        Due.of("a THING (0 to 9)");
        RosetteShow x = Due.show("s50", "c15", "");
        Due.is("groomed", x.event(0, 0, 1), 1);
        Due.is("kept in", x.event(1, 1, 1), 2);
        Due.is("shown in 0", x.show(0, 1), 1);
        Due.is("LOOKS", x.at(0, 0, 0), 5);
        Due.tell(x, 0, "s50;s31");
        Due.is("now it is there, groomed", x.at(0, 1, 0), 5);
        Due.is("and KEPT in", x.at(1, 1, 4), -1);
        Due.is("in that WEEK alone", x.at(2, 1, 4), 5);
    }

    private static void undoneToTheLast() {
        Due.of("9: The last EVENT is undone: how many are left. NOT: there is none");
        RosetteShow x = Due.show("s10", "c15", "");
        Due.is("a new one", x.back(), -3);
        for (int i = 0; i < 8; i++) {
            x.event(i == 0 ? 0 : 1, i, 0);
        }
        for (int left = 7; left >= 0; left--) {
            Due.is("the last is there", x.at(left, 0, left == 0 ? 0 : 4), left == 0 ? 3 : -1);
            Due.is("back", x.back(), left);
            Due.is("it is gone", x.at(left, 0, left == 0 ? 0 : 4), left == 0 ? 1 : 3);
        }
        Due.is("none is left", x.back(), -3);
        Due.is("NOT changes nothing", x.count(6), 0);
    }

    private static void lay(RosetteShow x, int s, int form, int... items) {
        Due.is("sheet", x.sheet(s, form, items.length), items.length);
        for (int i = 0; i < items.length; i++) {
            Due.is("lay", x.lay(s, form, i, items[i]), 1);
        }
    }

    private static void asManyAsAreWhole() {
        Due.of("10: three for each, as many as are whole");
        for (int items = 0; items <= 26; items++) {
            RosetteShow x = new RosetteShow();
            x.sheet(0, 1, items);
            Due.is("read of " + items + " items", x.read(0), items / 3);
            Due.is("EVENTS of " + items + " items", x.count(6), items / 3);
        }
    }

    private static void asLongAsEachMayBe() {
        Due.of("10: as long as each may be");
        int[][] wrong = {{-1, 0, 0}, {3, 0, 0}, {0, -1, 0}, {0, 12, 0}, {0, 0, -1}, {0, 0, 10}, {2, 0, 10}, {127, 127, 127}};
        for (int[] e : wrong) {
            RosetteShow x = Due.show("s10", "c15", "");
            lay(x, 2, 0, e[0], e[1], e[2], 0, 0, 0);
            Due.is("the first may not be", x.read(2), 0);
            Due.is("nor comes what is behind it", x.at(0, 0, 0), 1);
            lay(x, 2, 0, 0, 0, 0, e[0], e[1], e[2], 1, 5, 0);
            Due.is("the second may not be", x.read(2), 1);
            Due.is("the first came", x.at(0, 0, 0), 3);
            Due.is("the third did not", x.at(5, 0, 4), 3);
            Due.is("no FINDING", x.count(8), 0);
        }
        RosetteShow x = new RosetteShow();
        lay(x, 0, 2, 2, 11, 9, 0, 0, 0);
        Due.is("the greatest and the least may be", x.read(0), 2);
    }

    private static void asLongAsThereIsRoom() {
        Due.of("10: and there is room");
        for (int told = 0; told <= 8; told++) {
            RosetteShow x = new RosetteShow();
            x.sheet(3, 0, 60);
            for (int i = 0; i < told; i++) {
                x.event(2, 0, 0);
            }
            Due.is("read behind " + told, x.read(3), 8 - told);
            Due.is("EVENTS", x.count(6), 8);
            Due.is("no room at all", x.read(3), 0);
        }
        RosetteShow x = new RosetteShow();
        lay(x, 3, 0, 2, 1, 0, 2, 2, 0);
        for (int i = 0; i < 7; i++) {
            x.event(2, 0, 0);
        }
        Due.is("one has room", x.read(3), 1);
    }

    private static void fromEachForm() {
        Due.of("10: EVENTS more, from a SHEET: its items");
        RosetteShow x = Due.show("s10", "c15", "");
        lay(x, 0, 0, 256, 512, 1024);
        Due.is("the lowest bits of bytes are 0", x.read(0), 1);
        Due.is("groomed in WEEK 0", x.at(0, 0, 0), 3);
        lay(x, 1, 1, 65536, 131072, 262144);
        Due.is("the lowest bits of shorts are 0", x.read(1), 1);
        Due.is("groomed twice", x.at(0, 0, 0), 5);
        lay(x, 2, 2, 256, 0, 0);
        Due.is("an int is whole", x.read(2), 0);
        lay(x, 3, 1, 256, 0, 0);
        Due.is("256 is a short", x.read(3), 0);
        lay(x, 3, 2, LEAST, 0, 0);
        Due.is("the least int", x.read(3), 0);
        lay(x, 3, 2, 0, MOST, 0);
        Due.is("the greatest int", x.read(3), 0);
    }

    private static void whatReadLeaves() {
        Due.of("10: EVENTS more");
        RosetteShow x = Due.show("s10", "c15", "");
        x.event(1, 11, 0);
        lay(x, 1, 2, 0, 3, 0, 1, 4, 0);
        Due.is("read", x.read(1), 2);
        Due.is("what was told stays", x.at(11, 0, 4), -1);
        for (int i = 0; i < 6; i++) {
            Due.is("the SHEET stays", x.get(1, 2, i), new int[] {0, 3, 0, 1, 4, 0}[i]);
        }
        Due.is("read once more", x.read(1), 2);
        Due.is("groomed twice", x.at(3, 0, 0), 5);
        Due.is("back", x.back(), 4);
        Due.is("back", x.back(), 3);
        Due.is("the later ones are undone", x.at(3, 0, 0), 3);
        Due.is("the earlier ones stay", x.at(4, 0, 4), -1);
    }

    private static void readOfNoSheet() {
        Due.of("10: BAD; NULL");
        RosetteShow x = new RosetteShow();
        for (int wrong : new int[] {-1, 4, LEAST, MOST}) {
            Due.is("SHEET " + wrong, x.read(wrong), -2);
        }
        Due.is("BAD is no FINDING", x.count(8), 0);
        for (int s = 0; s < 4; s++) {
            Due.is("LOST", x.read(s), -11);
            x.sheet(s, 0, 3);
            Due.is("not LOST", x.read(s), 1);
            x.lose(s);
            Due.is("LOST again", x.read(s), -11);
            Due.is("EVENTS", x.count(6), s + 1);
        }
        for (int i = 0; i < 4; i++) {
            x.event(0, 0, 0);
        }
        Due.is("NULL, whatever room", x.read(0), -11);
    }
}
