/** Promises 1 to 7, and the counts of texts of 36. */
final class TextTests {
    public static void main(String[] args) {
        newObject();
        typing();
        wiping();
        undoing();
        faultsOfThings();
        faultsOfJudges();
        faultsOfTheBox();
        thingsTold();
        judgesTold();
        faultIsAsEmpty();
        Due.end();
    }

    private static void newObject() {
        RosetteShow x = new RosetteShow();
        for (int what = 0; what <= 8; what++) {
            Due.is("new: count " + what, x.count(what), 0);
        }
        for (int text = 0; text < 3; text++) {
            Due.is("new: fault " + text, x.fault(text), -1);
        }
        for (int s = 0; s < 4; s++) {
            Due.is("new: lose " + s, x.lose(s), -11);
        }
        Due.is("new: back", x.back(), -3);
        Due.is("new: forget", x.forget(), 0);
        Due.is("count(-1)", x.count(-1), -2);
        Due.is("count(9)", x.count(9), -2);
    }

    private static void typing() {
        int[] rooms = {39, 15, 12};
        for (int text = 0; text < 3; text++) {
            RosetteShow x = new RosetteShow();
            Due.is("type b -1", x.type(text, -1), -2);
            Due.is("type b 256", x.type(text, 256), -2);
            for (int i = 0; i < rooms[text]; i++) {
                Due.is("type " + text, x.type(text, i % 2 == 0 ? 0 : 255), i + 1);
            }
            Due.is("type beyond room", x.type(text, 's'), -4);
            Due.is("BAD is ahead of FULL", x.type(text, 256), -2);
            for (int t = 0; t < 3; t++) {
                Due.is("bytes of " + t, x.count(3 + t), t == text ? rooms[text] : 0);
            }
        }
        RosetteShow x = new RosetteShow();
        Due.is("type text -1", x.type(-1, 0), -2);
        Due.is("type text 3", x.type(3, 0), -2);
        Due.is("type text least", x.type(Integer.MIN_VALUE, 0), -2);
    }

    private static void wiping() {
        RosetteShow x = Due.show("s50;c71", "w31", "012");
        Due.is("wipe 0", x.wipe(0), 7);
        Due.is("wipe 0 again", x.wipe(0), 0);
        Due.is("things after", x.count(0), 0);
        Due.is("judges after", x.count(1), 1);
        Due.is("wipe 2", x.wipe(2), 3);
        Due.is("wipe 1", x.wipe(1), 3);
        Due.is("wipe -1", x.wipe(-1), -2);
        Due.is("wipe 3", x.wipe(3), -2);
        Due.is("type after wipe", x.type(0, 's'), 1);
    }

    private static void undoing() {
        RosetteShow x = Due.show("s50;", "", "3");
        Due.is("undo 0", x.undo(0), 3);
        Due.is("things after undo", x.count(0), 1);
        Due.is("undo 2", x.undo(2), 0);
        Due.is("undo 2 empty", x.undo(2), -3);
        Due.is("undo 1 empty", x.undo(1), -3);
        Due.is("undo -1", x.undo(-1), -2);
        Due.is("undo 3", x.undo(3), -2);
    }

    private static void fault(int text, String bytes, int want) {
        RosetteShow x = new RosetteShow();
        Due.tell(x, text, bytes);
        Due.is("fault of '" + bytes + "'", x.fault(text), want);
    }

    private static void faultsOfThings() {
        RosetteShow x = new RosetteShow();
        Due.is("fault(-1)", x.fault(-1), -2);
        Due.is("fault(3)", x.fault(3), -2);
        fault(0, "", -1);
        fault(0, "s", 1);
        fault(0, "s5", 2);
        fault(0, "s50", -1);
        fault(0, "c00", -1);
        fault(0, "w95", -1);
        fault(0, "s56", 2);
        fault(0, "x50", 0);
        fault(0, "S50", 0);
        fault(0, ";", 0);
        fault(0, "s:0", 1);
        fault(0, "s/0", 1);
        fault(0, "s5/", 2);
        fault(0, "s50;", 4);
        fault(0, "s50,", 3);
        fault(0, "s500", 3);
        fault(0, "s50;;", 4);
        fault(0, "s50;w", 5);
        fault(0, "s50;w9", 6);
        fault(0, "s50;w95", -1);
        fault(0, "s50;w95 c00", 7);
        fault(0, "x50;;;", 0);
        fault(0, "s00;s00;s00;s00;s00;s00;s00;s00;s00;s00", -1);
        fault(0, "s00;s00;s00;s00;s00;s00;s00;s00;s00;s0x", 38);
        fault(0, "s00;s00;s00;s00;s00;s00;s00;s00;s00;s0", 38);
    }

    private static void faultsOfJudges() {
        fault(1, "", -1);
        fault(1, "w", 1);
        fault(1, "w0", 1);
        fault(1, "w1", 2);
        fault(1, "w15", -1);
        fault(1, "w96", 2);
        fault(1, "c:0", 1);
        fault(1, "t10", 0);
        fault(1, "s10;c20;w30;s40", -1);
        fault(1, "s10;c20;w30;s4", 14);
        fault(1, "s10;c20;w30;", 12);
    }

    private static void faultsOfTheBox() {
        fault(2, "", -1);
        fault(2, "0", -1);
        fault(2, "012301230123", -1);
        fault(2, "4", 0);
        fault(2, "0123/", 4);
        fault(2, "01;2", 2);
        fault(2, "00000000000x", 11);
    }

    private static void thingsTold() {
        RosetteShow x = Due.show("s50;c71;w95;c00", "", "");
        long[][] want = {{0, 5, 0}, {1, 7, 1}, {2, 9, 5}, {1, 0, 0}};
        for (int t = 0; t < 4; t++) {
            for (int what = 0; what < 3; what++) {
                Due.is("thing(" + t + ", " + what + ")", x.thing(t, what), want[t][what]);
            }
            Due.is("thing what 3", x.thing(t, 3), -2);
            Due.is("thing what -1", x.thing(t, -1), -2);
        }
        Due.is("thing(4, 0)", x.thing(4, 0), -2);
        Due.is("thing(-1, 0)", x.thing(-1, 0), -2);
        Due.is("count 0", x.count(0), 4);
        x.event(0, 0, 0);
        Due.is("LOOKS at first stay", x.thing(0, 1), 5);
    }

    private static void judgesTold() {
        RosetteShow x = Due.show("", "s10;c92;w55;s43", "");
        long[][] want = {{0, 1, 0}, {1, 9, 2}, {2, 5, 5}, {0, 4, 3}};
        for (int j = 0; j < 4; j++) {
            for (int what = 0; what < 3; what++) {
                Due.is("judge(" + j + ", " + what + ")", x.judge(j, what), want[j][what]);
            }
            Due.is("judge what 3", x.judge(j, 3), -2);
            Due.is("judge what -1", x.judge(j, -1), -2);
        }
        Due.is("judge(4, 0)", x.judge(4, 0), -2);
        Due.is("judge(-1, 0)", x.judge(-1, 0), -2);
        Due.is("count 1", x.count(1), 4);
    }

    private static void faultIsAsEmpty() {
        RosetteShow x = Due.show("s50;c71;", "w30;w", "01x");
        Due.is("things with a fault", x.count(0), 0);
        Due.is("judges with a fault", x.count(1), 0);
        Due.is("figures with a fault", x.count(2), 0);
        Due.is("bytes 0", x.count(3), 8);
        Due.is("bytes 1", x.count(4), 5);
        Due.is("bytes 2", x.count(5), 3);
        Due.is("thing with a fault", x.thing(0, 0), -2);
        Due.is("judge with a fault", x.judge(0, 0), -2);
        Due.is("at with a fault", x.at(0, 0, 0), -2);
        x.undo(0);
        x.undo(1);
        x.undo(1);
        x.undo(2);
        Due.is("things mended", x.count(0), 2);
        Due.is("judges mended", x.count(1), 1);
        Due.is("figures mended", x.count(2), 2);
        Due.is("judge 1 is not there", x.show(1, 0), -1);
        x.type(2, 'x');
        Due.is("box with a fault: 0 has it", x.show(1, 0), 0);
    }
}
