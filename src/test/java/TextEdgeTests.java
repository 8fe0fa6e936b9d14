import java.util.Arrays;

/** The edges that promises 1 to 7 and the Terms of texts name, each sentence by itself. */
final class TextEdgeTests {
    private static final int LEAST = Integer.MIN_VALUE;
    private static final int MOST = Integer.MAX_VALUE;
    private static final int[] ROOMS = {39, 15, 12};
    private static final String TEN = "s00;c91;w42;s53;c84;w15;s20;c31;w62;s73";
    private static final String FOUR = "s10;c95;w52;s43";
    private static final String TWELVE = "012301230123";
    private static final String[] WHOLE = {TEN, FOUR, TWELVE};

    public static void main(String[] args) {
        nothingAtFirst();
        allSheetsLostAtFirst();
        upToSoManyBytes();
        aFullTextStays();
        aByteIs0To255();
        noSuchText();
        wipedWhenEmptyFullAndAtFault();
        undoneToTheLast();
        anEmptyTextIsWell();
        notEndedIsAtItsEnd();
        theFirstByteOfSeveral();
        eachByteAtEachPlaceOfThings();
        eachByteAtEachPlaceOfJudges();
        eachByteOfTheBox();
        noEleventhThingNoFifthJudge();
        thingsAtFaultAreAsNone();
        judgesAtFaultAreAsNone();
        theBoxAtFaultIsAsEmpty();
        theTenthThing();
        theFourthJudge();
        countedThings();
        Due.end();
    }

    private static void nothingAtFirst() {
        Due.of("1: No THINGS, no JUDGES, no EVENTS");
        RosetteShow x = new RosetteShow();
        Due.is("thing", x.thing(0, 0), -2);
        Due.is("judge", x.judge(0, 0), -2);
        Due.is("at", x.at(0, 0, 0), -2);
        Due.is("brush", x.brush(0, 0), -2);
        Due.is("rival", x.rival(0, 0), -2);
        Due.is("looked", x.looked(0), -2);
        Due.is("tastes", x.tastes(0), -2);
        Due.is("ask", x.ask(0), -2);
        Due.is("chance", x.chance(8, 0, 0), Long.MIN_VALUE + 2);
        Due.is("back", x.back(), -3);
        Due.is("never", x.never(), 0);
        Due.is("best", x.best(), -1);
        Due.is("champion", x.champion(), 0);
        Due.is("send", x.send(0, 0, 0), -1);
        Due.is("spare", x.spare(-1), 0);
        for (int week = 0; week < 12; week++) {
            Due.is("judge in " + week, x.show(week, 0), -1);
            Due.is("shown in " + week, x.show(week, 1), 0);
            Due.is("FIRST in " + week, x.place(week, 0), -1);
        }
    }

    private static void allSheetsLostAtFirst() {
        Due.of("1: all SHEETS are LOST");
        for (int s = 0; s < 4; s++) {
            RosetteShow x = Due.show("s50", "", "");
            Due.is("read", x.read(s), -11);
            Due.is("lose", x.lose(s), -11);
            Due.is("lay", x.lay(s, 0, 0, 0), -11);
            Due.is("get", x.get(s, 0, 0), LEAST);
            Due.is("copy", x.copy(s, 0, s, 0, 0), -11);
            Due.is("write", x.write(0, s), -11);
            Due.is("count 8", x.count(8), 1);
        }
    }

    private static void upToSoManyBytes() {
        Due.of("a text of up to 39, 15, 12 bytes; 2: FULL");
        for (int text = 0; text < 3; text++) {
            RosetteShow x = new RosetteShow();
            Due.tell(x, text, WHOLE[text]);
            Due.is("the last byte came to " + text, x.count(3 + text), ROOMS[text]);
            Due.is("one byte more to " + text, x.type(text, ';'), -4);
            Due.is("a byte that would not fit", x.type(text, 0), -4);
        }
    }

    private static void aFullTextStays() {
        Due.of("They change nothing");
        for (int text = 0; text < 3; text++) {
            RosetteShow x = new RosetteShow();
            Due.tell(x, text, WHOLE[text]);
            long before = x.digest();
            Due.is("FULL", x.type(text, 'x'), -4);
            Due.is("fault", x.fault(text), -1);
            Due.is("how many", x.count(text), new int[] {10, 4, 12}[text]);
            Due.is("digest", x.digest(), before);
            Due.is("there is room behind undo", x.undo(text), ROOMS[text] - 1);
            Due.is("a byte comes there", x.type(text, 'x'), ROOMS[text]);
            Due.is("its fault", x.fault(text), ROOMS[text] - 1);
            Due.is("FULL again", x.type(text, '0'), -4);
        }
    }

    private static void aByteIs0To255() {
        Due.of("2: A byte (0 to 255) comes behind a text. BAD");
        for (int text = 0; text < 3; text++) {
            RosetteShow x = new RosetteShow();
            Due.is("0", x.type(text, 0), 1);
            Due.is("255", x.type(text, 255), 2);
            for (int b : new int[] {-1, 256, 's' - 256, 's' + 256, '0' + 65536, LEAST, MOST}) {
                Due.is("byte " + b, x.type(text, b), -2);
            }
            Due.is("how many there are", x.count(3 + text), 2);
        }
    }

    private static void noSuchText() {
        Due.of("2 to 5: BAD");
        RosetteShow x = new RosetteShow();
        for (int text : new int[] {-1, 3, LEAST, MOST}) {
            Due.is("type", x.type(text, 's'), -2);
            Due.is("wipe", x.wipe(text), -2);
            Due.is("undo is not NOT", x.undo(text), -2);
            Due.is("fault", x.fault(text), -2);
        }
        Due.is("bytes", x.count(3) + x.count(4) + x.count(5), 0);
    }

    private static void wipedWhenEmptyFullAndAtFault() {
        Due.of("3: A text is empty: how many bytes it had");
        for (int text = 0; text < 3; text++) {
            RosetteShow x = new RosetteShow();
            Due.is("an empty one", x.wipe(text), 0);
            Due.tell(x, text, WHOLE[text]);
            Due.is("a full one", x.wipe(text), ROOMS[text]);
            Due.is("how many", x.count(text), 0);
            Due.is("bytes", x.count(3 + text), 0);
            Due.is("room again", x.type(text, 'x'), 1);
            Due.is("one with a FAULT", x.wipe(text), 1);
            Due.is("its FAULT is gone", x.fault(text), -1);
            Due.is("again", x.wipe(text), 0);
        }
    }

    private static void undoneToTheLast() {
        Due.of("4: how many are left. NOT: it is empty");
        for (int text = 0; text < 3; text++) {
            RosetteShow x = new RosetteShow();
            Due.is("a new one", x.undo(text), -3);
            Due.tell(x, text, WHOLE[text]);
            for (int left = ROOMS[text] - 1; left >= 0; left--) {
                Due.is("undo", x.undo(text), left);
            }
            Due.is("an empty one", x.undo(text), -3);
            Due.is("NOT changes nothing", x.count(3 + text), 0);
            Due.tell(x, text, "x");
            x.wipe(text);
            Due.is("behind wipe", x.undo(text), -3);
            Due.is("the other texts", x.count(3) + x.count(4) + x.count(5), 0);
        }
    }

    private static void anEmptyTextIsWell() {
        Due.of("an empty one is well");
        RosetteShow x = new RosetteShow();
        for (int text = 0; text < 3; text++) {
            Due.is("a new one", x.fault(text), -1);
            x.type(text, 'x');
            Due.is("not so", x.fault(text), 0);
            x.undo(text);
            Due.is("undone to nothing", x.fault(text), -1);
        }
    }

    private static void notEndedIsAtItsEnd() {
        Due.of("of one that is not ended, as behind a ;, its end");
        for (int text = 0; text < 2; text++) {
            RosetteShow x = new RosetteShow();
            for (int length = 1; length <= ROOMS[text]; length++) {
                x.type(text, WHOLE[text].charAt(length - 1));
                boolean isEnded = length % 4 == 3;
                Due.is("fault at length " + length, x.fault(text), isEnded ? -1 : length);
                Due.is("how many at length " + length, x.count(text), isEnded ? (length + 1) / 4 : 0);
            }
        }
        RosetteShow x = new RosetteShow();
        for (int length = 1; length <= 12; length++) {
            x.type(2, '3');
            Due.is("the box is ended at each", x.fault(2), -1);
            Due.is("figures", x.count(2), length);
        }
    }

    private static void theFirstByteOfSeveral() {
        Due.of("the place of the first byte with which it cannot go on");
        for (int text = 0; text < 3; text++) {
            for (int at = 0; at < ROOMS[text]; at++) {
                char[] bytes = WHOLE[text].toCharArray();
                Arrays.fill(bytes, at, bytes.length, '!');
                RosetteShow x = new RosetteShow();
                Due.tell(x, text, new String(bytes));
                Due.is("all wrong from " + at + " on", x.fault(text), at);
                bytes = WHOLE[text].toCharArray();
                bytes[at] = (char) 255;
                Due.tell(x, text, new String(bytes));
                Due.is("one wrong at " + at, x.fault(text), at);
            }
        }
        RosetteShow x = Due.show("s5", "", "");
        Due.is("its end", x.fault(0), 2);
        x.type(0, '6');
        Due.is("that byte is wrong", x.fault(0), 2);
        x.type(0, ';');
        Due.is("nothing behind it mends it", x.fault(0), 2);
    }

    /** What follows the wrong or right byte is nothing, so a right one moves the FAULT to the end or away. */
    private static void eachByte(int text, String ahead, String right, boolean endsWell) {
        for (int b = 0; b < 256; b++) {
            RosetteShow x = new RosetteShow();
            Due.tell(x, text, ahead + (char) b);
            int at = ahead.length();
            int due = right.indexOf(b) < 0 ? at : endsWell ? -1 : at + 1;
            Due.is("fault of '" + ahead + "' and byte " + b, x.fault(text), due);
        }
    }

    private static void eachByteAtEachPlaceOfThings() {
        Due.of("s, c or w, a figure 0 to 9, its LOOKS, and a figure 0 to 5, whose it is");
        eachByte(0, "", "scw", false);
        eachByte(0, "s", "0123456789", false);
        eachByte(0, "c0", "012345", true);
        eachByte(0, "w95", ";", false);
        eachByte(0, "w95;", "scw", false);
        eachByte(0, TEN.substring(0, 36), "scw", false);
        eachByte(0, TEN.substring(0, 38), "012345", true);
    }

    private static void eachByteAtEachPlaceOfJudges() {
        Due.of("s, c or w, the TASTE, a figure 1 to 9, the EYE, and a figure 0 to 5, whose FRIEND");
        eachByte(1, "", "scw", false);
        eachByte(1, "s", "123456789", false);
        eachByte(1, "c1", "012345", true);
        eachByte(1, "w95", ";", false);
        eachByte(1, "w95;", "scw", false);
        eachByte(1, FOUR.substring(0, 13), "123456789", false);
        eachByte(1, FOUR.substring(0, 14), "012345", true);
    }

    private static void eachByteOfTheBox() {
        Due.of("a text of up to 12 figures 0 to 3");
        eachByte(2, "", "0123", true);
        eachByte(2, "0", "0123", true);
        eachByte(2, "01230123012", "0123", true);
    }

    private static void noEleventhThingNoFifthJudge() {
        Due.of("also of the first byte of an eleventh THING, of a fifth JUDGE");
        RosetteShow x = Due.show(TEN, FOUR, "");
        Due.is("no room for its ;", x.type(0, ';'), -4);
        Due.is("no room for its ;", x.type(1, ';'), -4);
        Due.is("ten THINGS", x.count(0), 10);
        Due.is("four JUDGES", x.count(1), 4);
    }

    private static void thingsAtFaultAreAsNone() {
        Due.of("With a FAULT a text is as if it was empty: THINGS");
        RosetteShow x = Due.show("w90;s81", "w15", "0");
        x.event(2, 0, 0);
        Due.is("best ahead of it", x.best(), 1);
        x.type(0, ';');
        Due.is("count", x.count(0), 0);
        Due.is("bytes", x.count(3), 8);
        Due.is("thing", x.thing(0, 0), -2);
        Due.is("at", x.at(0, 0, 1), -2);
        Due.is("place", x.place(0, 0), -1);
        Due.is("the judge is there", x.show(0, 0), 0);
        Due.is("shown", x.show(0, 1), 0);
        Due.is("owned", x.owned(0), 0);
        Due.is("best", x.best(), -1);
        Due.is("FALLEN", x.left(0), 0);
        Due.is("BARE", x.left(1), 0);
        Due.is("spare", x.spare(-1), 0);
        Due.is("chance", x.chance(16, 0, 1), Long.MIN_VALUE + 2);
        x.undo(0);
        Due.is("best behind it", x.best(), 1);
    }

    private static void judgesAtFaultAreAsNone() {
        Due.of("With a FAULT a text is as if it was empty: JUDGES");
        RosetteShow x = Due.show("w90;s81", "w15;s2", "0");
        Due.is("count", x.count(1), 0);
        Due.is("bytes", x.count(4), 6);
        Due.is("judge", x.judge(0, 0), -2);
        Due.is("tastes", x.tastes(0), -2);
        Due.is("the judge is not there", x.show(0, 0), -1);
        Due.is("shown", x.show(0, 1), 0);
        Due.is("place", x.place(11, 0), -1);
        Due.is("score", x.at(0, 0, 4), -1);
        Due.is("send", x.send(0, 0, 1), -1);
        Due.is("BARE", x.left(1), 3);
        x.type(1, '5');
        Due.is("count", x.count(1), 2);
        Due.is("the judge is there", x.show(0, 0), 0);
    }

    private static void theBoxAtFaultIsAsEmpty() {
        Due.of("With a FAULT a text is as if it was empty: THE BOX");
        RosetteShow x = Due.show("s50", "s10;s20", "1114");
        Due.is("fault", x.fault(2), 3);
        Due.is("figures", x.count(2), 0);
        Due.is("bytes", x.count(5), 4);
        for (int week = 0; week < 12; week++) {
            Due.is("0 has it in " + week, x.show(week, 0), 0);
        }
        x.undo(2);
        for (int week = 0; week < 12; week++) {
            Due.is("as told in " + week, x.show(week, 0), week < 3 ? 1 : 0);
        }
    }

    private static void theTenthThing() {
        Due.of("6: Its sort, LOOKS at first, whose of a THING. BAD");
        RosetteShow x = Due.show(TEN, "", "");
        for (int t = 0; t < 10; t++) {
            Due.is("sort of " + t, x.thing(t, 0), "scw".indexOf(TEN.charAt(4 * t)));
            Due.is("LOOKS of " + t, x.thing(t, 1), TEN.charAt(4 * t + 1) - '0');
            Due.is("whose is " + t, x.thing(t, 2), TEN.charAt(4 * t + 2) - '0');
        }
        for (int wrong : new int[] {-1, 10, LEAST, MOST}) {
            Due.is("thing " + wrong, x.thing(wrong, 0), -2);
            Due.is("what " + wrong, x.thing(0, wrong), -2);
        }
        Due.is("what 3", x.thing(9, 3), -2);
        x.undo(0);
        Due.is("none is ended", x.thing(0, 0), -2);
        x.type(0, '0');
        x.event(0, 0, 9);
        Due.is("LOOKS at first", x.thing(9, 1), 7);
    }

    private static void theFourthJudge() {
        Due.of("7: The TASTE, the EYE, whose FRIEND of a JUDGE. BAD");
        RosetteShow x = Due.show("", FOUR, "");
        for (int j = 0; j < 4; j++) {
            Due.is("TASTE of " + j, x.judge(j, 0), "scw".indexOf(FOUR.charAt(4 * j)));
            Due.is("EYE of " + j, x.judge(j, 1), FOUR.charAt(4 * j + 1) - '0');
            Due.is("FRIEND of " + j, x.judge(j, 2), FOUR.charAt(4 * j + 2) - '0');
        }
        for (int wrong : new int[] {-1, 4, LEAST, MOST}) {
            Due.is("judge " + wrong, x.judge(wrong, 0), -2);
            Due.is("what " + wrong, x.judge(0, wrong), -2);
        }
        Due.is("what 3", x.judge(3, 3), -2);
        x.undo(1);
        Due.is("none is ended", x.judge(0, 0), -2);
    }

    private static void countedThings() {
        Due.of("36: 0 THINGS, 1 JUDGES, 2 figures of THE BOX, 3 to 5 bytes of texts, 6 EVENTS, 7 SEEN, 8 the latest FINDING. BAD");
        RosetteShow x = Due.show(TEN, FOUR, TWELVE);
        for (int i = 0; i < 8; i++) {
            x.event(2, 0, 0);
            x.seen(0, 0, 0);
        }
        x.event(2, 0, 0);
        x.seen(0, 0, 0);
        int[] due = {10, 4, 12, 39, 15, 12, 8, 8, 0};
        for (int what = 0; what < 9; what++) {
            Due.is("count(" + what + ")", x.count(what), due[what]);
        }
        for (int wrong : new int[] {-1, 9, LEAST, MOST}) {
            Due.is("count(" + wrong + ")", x.count(wrong), -2);
        }
    }
}
