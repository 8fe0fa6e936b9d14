/** Promise 37, by the answers of the other calls, and that asking changes nothing. */
final class DigestTests {
    public static void main(String[] args) {
        emptyObject();
        compare("two sorts", Due.show("s50;c50;w40;s13", "w23", ""));
        compare("many", Due.show("w90;w91;c92;w93;w94;s95;w90;c91;w92;w93", "w90;w95;c11;s12", "012301230123"));
        RosetteShow x = Due.show("w70;s81;c92;w63", "w25;s10;c31", "0120");
        x.event(0, 0, 0);
        x.event(1, 1, 1);
        x.event(2, 2, 2);
        x.event(2, 2, 2);
        x.event(0, 6, 3);
        x.event(1, 7, 2);
        x.event(0, 4, 9);
        x.event(1, 11, 0);
        compare("with EVENTS", x);
        x.seen(0, 0, 1);
        x.seen(1, 1, 3);
        compare("with SEEN", x);
        x.type(0, ';');
        compare("with a FAULT of THINGS", x);
        x.undo(0);
        x.type(2, 'x');
        compare("with a FAULT of THE BOX", x);
        RosetteShow y = Due.show("w50;s95", "c14", "");
        y.event(2, 0, 0);
        y.event(0, 3, 0);
        y.event(0, 4, 0);
        Due.is("one to SPARE", y.spare(0), 1);
        compare("with one to SPARE", y);
        // By how many sixteenths, by what seed and of how many WEEKS is seen only where that makes a difference.
        RosetteShow groomed = Due.show("s50;s41;w90;w80;w70;w60", "c14", "");
        groomed.event(0, 0, 1);
        groomed.event(1, 0, 2);
        compare("with chances", groomed);
        for (String things : new String[] {"w90;w80;w70;w60", "s50;s51;s52;s53", "s53;s52;s51;s50", "w50;w51;w52;w53", "s50;w41"}) {
            compare("by one JUDGE: " + things, Due.show(things, "c14", ""));
            compare("by two: " + things, Due.show(things, "c10;c11", ""));
            compare("by four: " + things, Due.show(things, "c10;c11;c12;c13", ""));
            compare("by walls: " + things, Due.show(things, "w10;w91;c12;c13", ""));
            compare("by other walls: " + things, Due.show(things, "w92;w51;s90;c13", ""));
        }
        RosetteShow chancy = Due.show("s50;s41", "c14", "");
        chancy.event(0, 0, 1);
        compare("with a chance", chancy);
        long before = x.digest();
        x.get(0, 0, 0);
        x.sheet(0, 0, 9);
        Due.is("SHEETS and FINDINGS are not in it", x.digest(), before);
        Due.end();
    }

    private static void emptyObject() {
        RosetteShow x = new RosetteShow();
        long h = 17;
        int[] row = new int[8 + 3 + 60 + 18 + 9];
        int n = 8;
        for (int i = 0; i < 3; i++) {
            row[n++] = -1;
        }
        for (int week = 0; week < 12; week++) {
            row[n++] = -1;
            row[n++] = 0;
            row[n++] = -1;
            row[n++] = -1;
            row[n++] = -1;
        }
        for (int owner = 0; owner < 6; owner++) {
            row[n++] = 0;
            row[n++] = -1;
            row[n++] = -1;
        }
        int[] last = {0, -1, 0, 0, 0, -1, 0, -1, 0};
        for (int v : last) {
            row[n++] = v;
        }
        for (int v : row) {
            h = 31 * h + v;
        }
        Due.is("digest of a new object", x.digest(), h);
    }

    private static void compare(String name, RosetteShow x) {
        long first = x.digest();
        long want = byOtherCalls(x);
        Due.is(name, first, want);
        Due.is(name + " again", x.digest(), want);
        Due.is(name + " by other calls again", byOtherCalls(x), want);
    }

    private static long h;

    private static void and(long v) {
        h = 31 * h + v;
    }

    private static long byOtherCalls(RosetteShow x) {
        h = 17;
        for (int i = 0; i <= 7; i++) {
            and(x.count(i));
        }
        for (int i = 0; i < 3; i++) {
            and(x.fault(i));
        }
        for (int week = 0; week < 12; week++) {
            and(x.show(week, 0));
            and(x.show(week, 1));
            for (int place = 0; place < 3; place++) {
                and(x.place(week, place));
            }
        }
        for (int t = 0; t < x.count(0); t++) {
            thing(x, t);
        }
        for (int j = 0; j < x.count(1); j++) {
            for (int what = 0; what < 3; what++) {
                and(x.judge(j, what));
            }
            and(x.tastes(j));
        }
        for (int owner = 0; owner < 6; owner++) {
            and(x.owned(owner));
            and(x.send(6, owner, 0));
            and(x.send(6, owner, 1));
        }
        long[] last = {x.champion(), x.best(), x.left(0), x.left(1), x.spare(-1), x.spare(0), x.never(), x.years(7, 9, 0), x.years(7, 9, 1)};
        for (long v : last) {
            and(v);
        }
        return h;
    }

    private static void thing(RosetteShow x, int t) {
        for (int what = 0; what < 3; what++) {
            and(x.thing(t, what));
        }
        for (int week : new int[] {0, 4, 8, 11}) {
            for (int what = 0; what < 5; what++) {
                and(x.at(week, t, what));
            }
        }
        long[] rest = {x.brush(t, 0), x.brush(t, 1), x.rival(t, 0), x.rival(t, 1), x.looked(t), x.ask(t), x.chance(5, t, 0), x.chance(5, t, 1)};
        for (long v : rest) {
            and(v);
        }
    }
}
