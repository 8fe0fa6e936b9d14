/** Promises 30 to 35, and the latest FINDING of 36. */
final class SheetTests {
    private static final int LEAST = Integer.MIN_VALUE;

    public static void main(String[] args) {
        making();
        losing();
        laying();
        lowestBits();
        getting();
        copying();
        wrongCopies();
        writing();
        Due.end();
    }

    private static void making() {
        RosetteShow x = new RosetteShow();
        int[][] bad = {{-1, 0, 0}, {4, 0, 0}, {0, -1, 0}, {0, 3, 0}, {0, 0, 61}, {0, 3, -1}, {4, 0, -1}};
        for (int[] s : bad) {
            Due.is("sheet " + s[0] + " " + s[1] + " " + s[2], x.sheet(s[0], s[1], s[2]), -2);
        }
        Due.is("BAD is no FINDING", x.count(8), 0);
        Due.is("SIZE", x.sheet(0, 0, -1), -15);
        Due.is("SIZE told", x.count(8), 5);
        Due.is("SIZE of the least", x.sheet(0, 0, LEAST), -15);
        Due.is("it is LOST yet", x.lose(0), -11);
        Due.is("0 items", x.sheet(0, 0, 0), 0);
        Due.is("60 items", x.sheet(3, 2, 60), 60);
        Due.is("lay", x.lay(3, 2, 59, 8), 1);
        Due.is("lay", x.lay(3, 2, 0, 8), 1);
        Due.is("a refused one stays", x.sheet(3, 2, 61), -2);
        Due.is("a refused one stays", x.sheet(3, 2, -3), -15);
        Due.is("get", x.get(3, 2, 59), 8);
        Due.is("a new row", x.sheet(3, 2, 60), 60);
        Due.is("is 0 at first", x.get(3, 2, 59), 0);
        Due.is("is 0 at first", x.get(3, 2, 0), 0);
        Due.is("another FORM", x.sheet(3, 1, 5), 5);
        Due.is("get of it", x.get(3, 1, 4), 0);
    }

    private static void losing() {
        RosetteShow x = new RosetteShow();
        Due.is("lose(-1)", x.lose(-1), -2);
        Due.is("lose(4)", x.lose(4), -2);
        x.sheet(2, 1, 17);
        Due.is("lose", x.lose(2), 17);
        Due.is("no FINDING", x.count(8), 0);
        Due.is("lose again", x.lose(2), -11);
        Due.is("NULL told", x.count(8), 1);
        x.sheet(2, 1, 0);
        Due.is("lose of none", x.lose(2), 0);
    }

    private static void laying() {
        RosetteShow x = new RosetteShow();
        x.sheet(1, 1, 4);
        Due.is("lay s -1", x.lay(-1, 1, 0, 0), -2);
        Due.is("lay s 4", x.lay(4, 1, 0, 0), -2);
        Due.is("lay form -1", x.lay(1, -1, 0, 0), -2);
        Due.is("lay form 3", x.lay(1, 3, 0, 0), -2);
        Due.is("BAD is ahead of NULL", x.lay(0, 3, 0, 0), -2);
        Due.is("NULL is ahead of the others", x.lay(0, 0, -1, 0), -11);
        Due.is("CAST is ahead of INDEX", x.lay(1, 0, -1, 0), -13);
        Due.is("CAST told", x.count(8), 3);
        Due.is("INDEX below", x.lay(1, 1, -1, 0), -12);
        Due.is("INDEX told", x.count(8), 2);
        Due.is("INDEX above", x.lay(1, 1, 4, 0), -12);
        Due.is("INDEX of the least", x.lay(1, 1, LEAST, 0), -12);
        Due.is("lay", x.lay(1, 1, 3, 77), 1);
        Due.is("get", x.get(1, 1, 3), 77);
        Due.is("its neighbour", x.get(1, 1, 2), 0);
    }

    private static void lowestBits() {
        int[] values = {0, 1, -1, 127, 128, 255, 256, -128, -129, 32767, 32768, 65535, 65536, -32769, Integer.MAX_VALUE, LEAST + 1};
        RosetteShow x = new RosetteShow();
        for (int form = 0; form < 3; form++) {
            x.sheet(0, form, 1);
            for (int v : values) {
                x.lay(0, form, 0, v);
                int unused = form == 0 ? 24 : form == 1 ? 16 : 0;
                Due.is("get of " + v + " as " + form, x.get(0, form, 0), v << unused >> unused);
            }
        }
        x.sheet(0, 0, 1);
        x.lay(0, 0, 0, 200);
        Due.is("200 as a byte", x.get(0, 0, 0), -56);
    }

    private static void getting() {
        RosetteShow x = new RosetteShow();
        x.sheet(1, 1, 4);
        Due.is("get s -1", x.get(-1, 1, 0), LEAST);
        Due.is("get s 4", x.get(4, 1, 0), LEAST);
        Due.is("get form -1", x.get(1, -1, 0), LEAST);
        Due.is("get form 3", x.get(1, 3, 0), LEAST);
        Due.is("BAD is no FINDING", x.count(8), 0);
        Due.is("NULL", x.get(0, 0, -1), LEAST);
        Due.is("NULL told", x.count(8), 1);
        Due.is("CAST", x.get(1, 2, -1), LEAST);
        Due.is("CAST told", x.count(8), 3);
        Due.is("INDEX", x.get(1, 1, 4), LEAST);
        Due.is("INDEX told", x.count(8), 2);
        Due.is("INDEX", x.get(1, 1, -1), LEAST);
        Due.is("get", x.get(1, 1, 0), 0);
        Due.is("the latest stays", x.count(8), 2);
    }

    private static RosetteShow rows() {
        RosetteShow x = new RosetteShow();
        x.sheet(0, 2, 6);
        x.sheet(1, 2, 4);
        x.sheet(2, 1, 6);
        for (int i = 0; i < 6; i++) {
            x.lay(0, 2, i, i + 1);
        }
        return x;
    }

    private static void items(String name, RosetteShow x, int s, int... want) {
        for (int i = 0; i < want.length; i++) {
            Due.is(name + " item " + i, x.get(s, 2, i), want[i]);
        }
    }

    private static void copying() {
        RosetteShow x = rows();
        Due.is("copy", x.copy(0, 1, 1, 2, 2), 1);
        items("copied", x, 1, 0, 0, 2, 3);
        items("copied from", x, 0, 1, 2, 3, 4, 5, 6);
        Due.is("copy up", x.copy(0, 0, 0, 1, 5), 1);
        items("as they were", x, 0, 1, 1, 2, 3, 4, 5);
        Due.is("copy down", x.copy(0, 2, 0, 0, 4), 1);
        items("as they were", x, 0, 2, 3, 4, 5, 4, 5);
        Due.is("copy none at the ends", x.copy(0, 6, 1, 4, 0), 1);
        Due.is("copy all", x.copy(1, 0, 0, 2, 4), 1);
        items("all", x, 0, 2, 3, 0, 0, 2, 3);
    }

    private static void wrongCopies() {
        RosetteShow x = rows();
        Due.is("copy s -1", x.copy(-1, 0, 0, 0, 0), -2);
        Due.is("copy s 4", x.copy(4, 0, 3, 0, 0), -2);
        Due.is("copy t -1", x.copy(3, 0, -1, 0, 0), -2);
        Due.is("copy t 4", x.copy(0, 0, 4, 0, 0), -2);
        Due.is("BAD is no FINDING", x.count(8), 0);
        Due.is("copy of one that is LOST", x.copy(3, -1, 0, 0, 0), -11);
        Due.is("copy to one that is LOST", x.copy(2, -1, 3, 0, 0), -11);
        Due.is("NULL told", x.count(8), 1);
        Due.is("STORE is ahead of INDEX", x.copy(0, -1, 2, 0, 1), -14);
        Due.is("STORE of none", x.copy(2, 0, 0, 0, 0), -14);
        Due.is("STORE told", x.count(8), 4);
        int[][] bad = {{-1, 0, 1}, {0, -1, 1}, {0, 0, -1}, {0, 0, 5}, {3, 0, 4}, {0, 1, 4}, {7, 0, 0}, {0, 5, 0},
            {Integer.MAX_VALUE, 0, 1}, {0, Integer.MAX_VALUE, 1}, {0, 0, Integer.MAX_VALUE}, {1, 1, Integer.MAX_VALUE},
            {LEAST, 0, 0}, {0, LEAST, 0}, {0, 0, LEAST}, {LEAST, LEAST, LEAST}};
        for (int[] b : bad) {
            Due.is("copy " + b[0] + " " + b[1] + " " + b[2], x.copy(0, b[0], 1, b[1], b[2]), -12);
        }
        Due.is("INDEX told", x.count(8), 2);
        items("nothing changed", x, 1, 0, 0, 0, 0);
    }

    private static void writing() {
        RosetteShow x = Due.show("s50;s40", "s10", "");
        x.event(2, 2, 0);
        Due.is("write(-1, 0)", x.write(-1, 0), -2);
        Due.is("write(2, 0)", x.write(2, 0), -2);
        Due.is("write(0, -1)", x.write(0, -1), -2);
        Due.is("write(0, 4)", x.write(0, 4), -2);
        Due.is("BAD is no FINDING", x.count(8), 0);
        Due.is("NULL", x.write(0, 0), -11);
        Due.is("NULL told", x.count(8), 1);
        for (int form = 0; form < 3; form++) {
            x.sheet(0, form, 14);
            x.lay(0, form, 11, 99);
            x.lay(0, form, 12, 99);
            Due.is("12 at most", x.write(1, 0), 12);
            for (int week = 0; week < 12; week++) {
                Due.is("COLOUR behind " + week, x.get(0, form, week), 2 * week + 2 - (week < 2 ? 0 : 1));
            }
            Due.is("what is behind stays", x.get(0, form, 12), 99);
        }
        x.sheet(1, 2, 3);
        Due.is("as many as there are", x.write(0, 1), 3);
        Due.is("COLOUR behind 2", x.get(1, 2, 2), 8);
        x.sheet(1, 0, 0);
        Due.is("none", x.write(0, 1), 0);
        x.wipe(1);
        x.sheet(1, 0, 1);
        x.lay(1, 0, 0, 5);
        Due.is("without judges", x.write(0, 1), 1);
        Due.is("0 is written, too", x.get(1, 0, 0), 0);
    }
}
