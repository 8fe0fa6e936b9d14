/** Promises 28 and 29. */
final class ChanceTests {
    private static final long BAD = Long.MIN_VALUE + 2;

    public static void main(String[] args) {
        chances();
        longRows();
        wrongChances();
        years();
        lots();
        Due.end();
    }

    private static void chance(RosetteShow x, int c, int thing, long above, long below) {
        Due.is("chance(" + c + ", " + thing + ", 0)", x.chance(c, thing, 0), above);
        Due.is("chance(" + c + ", " + thing + ", 1)", x.chance(c, thing, 1), below);
    }

    private static void chances() {
        RosetteShow x = Due.show("s50;s41", "c15", "");
        chance(x, 7, 0, 1, 1);
        chance(x, 7, 1, 0, 1);
        x.event(0, 0, 1);
        chance(x, 0, 0, 1, 1);
        chance(x, 0, 1, 0, 1);
        chance(x, 16, 0, 0, 1);
        chance(x, 16, 1, 1, 1);
        chance(x, 5, 1, 5, 16);
        chance(x, 5, 0, 11, 16);
        chance(x, 4, 1, 1, 4);
        x.event(0, 0, 1);
        // Either of two groomings is enough: 1 less 11 by 16 squared.
        chance(x, 5, 1, 135, 256);
        chance(x, 5, 0, 121, 256);
        chance(x, 8, 1, 3, 4);
        Due.is("EVENTS are as they were", x.at(0, 1, 0), 8);
        // Groomed in WEEK 5 the other one has 15 of 5 WEEKS ahead against it, and 7 WEEKS to come.
        x = Due.show("s50;s41", "c15", "");
        x.event(0, 5, 1);
        chance(x, 3, 1, 3, 16);
        x.back();
        x.event(0, 6, 1);
        chance(x, 3, 1, 0, 1);
    }

    private static void longRows() {
        RosetteShow x = Due.show("s50;s41", "c15", "");
        for (int i = 0; i < 8; i++) {
            x.event(0, 0, 1);
        }
        long none = 1;
        for (int i = 0; i < 8; i++) {
            none *= 15;
        }
        chance(x, 1, 0, none, 1L << 32);
        chance(x, 1, 1, (1L << 32) - none, 1L << 32);
        chance(x, 8, 0, 1, 256);
    }

    private static void wrongChances() {
        RosetteShow x = Due.show("s50", "s10", "");
        Due.is("chance(-1, 0, 0)", x.chance(-1, 0, 0), BAD);
        Due.is("chance(17, 0, 0)", x.chance(17, 0, 0), BAD);
        Due.is("chance(0, -1, 0)", x.chance(0, -1, 0), BAD);
        Due.is("chance(0, 1, 0)", x.chance(0, 1, 0), BAD);
        Due.is("chance(0, 0, -1)", x.chance(0, 0, -1), BAD);
        Due.is("chance(0, 0, 2)", x.chance(0, 0, 2), BAD);
    }

    private static void years() {
        RosetteShow x = Due.show("w90;s81;s72", "c15;c12", "111111111111");
        Due.is("as told", x.best(), 2);
        Due.is("0 in all WEEKS: BEST", x.years(1, 0, 0), 1);
        Due.is("0 in all WEEKS: FALL", x.years(1, 0, 1), 1);
        Due.is("the box is as it was", x.show(0, 0), 1);
        Due.is("years(0, -1, 0)", x.years(0, -1, 0), -2);
        Due.is("years(0, 13, 0)", x.years(0, 13, 0), -2);
        Due.is("years(0, 0, -1)", x.years(0, 0, -1), -2);
        Due.is("years(0, 0, 2)", x.years(0, 0, 2), -2);
        x.wipe(0);
        Due.is("no THINGS: BEST", x.years(3, 12, 0), -1);
        Due.is("no THINGS: FALL", x.years(3, 12, 1), 0);
    }

    /** What a year draws is the same as when the lots are typed as THE BOX. */
    private static void lots() {
        int[] seeds = {0, 1, 7, -1, 123456789, Integer.MAX_VALUE, Integer.MIN_VALUE};
        for (int seed : seeds) {
            for (int n = 0; n <= 12; n++) {
                RosetteShow x = Due.show("w90;s81;c72;w63;s04", "c15;s12;w33;s94", "321");
                int best = x.years(seed, n, 0);
                int fall = x.years(seed, n, 1);
                StringBuilder box = new StringBuilder();
                long lot = seed & 0xffffffffL;
                for (int week = 0; week < n; week++) {
                    lot = (1103515245L * lot + 12345L) & 0xffffffffL;
                    box.append((char) ('0' + (lot / 65536) % 4));
                }
                Due.tell(x, 2, box.toString());
                Due.is("BEST of years(" + seed + ", " + n + ")", best, x.best());
                Due.is("FALL of years(" + seed + ", " + n + ")", fall, Integer.bitCount(x.left(0)));
            }
        }
    }
}
