/** The edges that promises 30 to 36 and the Terms of SHEETS and FINDINGS name, each sentence by itself. */
final class SheetEdgeTests {
    private static final int LEAST = Integer.MIN_VALUE;
    private static final int MOST = Integer.MAX_VALUE;
    private static final int NULL = -11;
    private static final int INDEX = -12;
    private static final int CAST = -13;
    private static final int STORE = -14;
    private static final int SIZE = -15;

    public static void main(String[] args) {
        of0To60Items();
        numbersOfSheetNotAsTold();
        sizeBelow0();
        aRefusedSheetStays();
        zeroAtFirst();
        aRowOfNone();
        lost();
        numbersOfLoseNotAsTold();
        laidAtTheEnds();
        bytes();
        shorts();
        ints();
        refusalsOfLayInTheirOrder();
        aRefusedLayChangesNothing();
        gotAtTheEnds();
        refusalsOfGetInTheirOrder();
        theLeastIntAsAnItem();
        copiedWhole();
        copiedWithinOneSheet();
        copiedNone();
        copiedTooFar();
        copiedBelow0();
        refusalsOfCopyInTheirOrder();
        storeBetweenUnlikeForms();
        writtenAsManyAsThereAre();
        writtenInEachForm();
        refusalsOfWriteInTheirOrder();
        theLatestFinding();
        Due.end();
    }

    private static RosetteShow row(int form, int items) {
        RosetteShow x = new RosetteShow();
        Due.is("sheet", x.sheet(0, form, items), items);
        for (int i = 0; i < items; i++) {
            Due.is("lay", x.lay(0, form, i, i + 1), 1);
        }
        return x;
    }

    private static void of0To60Items() {
        Due.of("SHEETS 0 .. 3 are LOST or a row of a FORM: 0 bytes, 1 shorts, 2 ints, of 0 to 60 items");
        for (int s = 0; s < 4; s++) {
            for (int form = 0; form < 3; form++) {
                for (int n = 0; n <= 60; n++) {
                    RosetteShow x = new RosetteShow();
                    Due.is("sheet " + s + " of " + n, x.sheet(s, form, n), n);
                    Due.is("lose " + s + " of " + n, x.lose(s), n);
                }
            }
        }
    }

    private static void numbersOfSheetNotAsTold() {
        Due.of("30: BAD: SHEET, FORM, above 60");
        RosetteShow x = new RosetteShow();
        for (int wrong : new int[] {-1, 4, LEAST, MOST}) {
            Due.is("SHEET " + wrong, x.sheet(wrong, 0, 0), -2);
            Due.is("SHEET " + wrong + " ahead of SIZE", x.sheet(wrong, 0, -1), -2);
        }
        for (int wrong : new int[] {-1, 3, LEAST, MOST}) {
            Due.is("FORM " + wrong, x.sheet(0, wrong, 0), -2);
            Due.is("FORM " + wrong + " ahead of SIZE", x.sheet(0, wrong, -1), -2);
        }
        Due.is("61", x.sheet(0, 0, 61), -2);
        Due.is("the greatest", x.sheet(0, 0, MOST), -2);
        Due.is("BAD is no FINDING", x.count(8), 0);
    }

    private static void sizeBelow0() {
        Due.of("5 SIZE: below 0");
        for (int n : new int[] {-1, -60, -61, LEAST}) {
            RosetteShow x = new RosetteShow();
            Due.is("sheet of " + n, x.sheet(3, 2, n), SIZE);
            Due.is("count 8", x.count(8), 5);
            Due.is("it is LOST yet", x.lose(3), NULL);
        }
    }

    private static void aRefusedSheetStays() {
        Due.of("They change nothing");
        RosetteShow x = row(2, 60);
        Due.is("61", x.sheet(0, 2, 61), -2);
        Due.is("-1", x.sheet(0, 1, -1), SIZE);
        Due.is("FORM 3", x.sheet(0, 3, 5), -2);
        for (int i = 0; i < 60; i++) {
            Due.is("item " + i, x.get(0, 2, i), i + 1);
        }
        Due.is("how many items", x.lose(0), 60);
    }

    private static void zeroAtFirst() {
        Due.of("items (0 at first); 30: A SHEET is a new row");
        for (int form = 0; form < 3; form++) {
            RosetteShow x = row(form, 60);
            Due.is("a shorter one", x.sheet(0, form, 1), 1);
            Due.is("its item", x.get(0, form, 0), 0);
            Due.is("its end", x.lay(0, form, 1, 0), INDEX);
            Due.is("a long one again", x.sheet(0, form, 60), 60);
            for (int i = 0; i < 60; i++) {
                Due.is("item " + i, x.get(0, form, i), 0);
            }
            x.lay(0, form, 59, 7);
            x.lose(0);
            x.sheet(0, form, 60);
            Due.is("behind lose", x.get(0, form, 59), 0);
            x.lay(0, form, 59, 7);
            int other = (form + 1) % 3;
            x.sheet(0, other, 60);
            Due.is("of another FORM", x.get(0, other, 59), 0);
            Due.is("and not of the old one", x.lay(0, form, 0, 0), CAST);
        }
    }

    private static void aRowOfNone() {
        Due.of("of 0 to 60 items: 0");
        RosetteShow x = Due.show("s50", "s10", "");
        x.sheet(2, 1, 0);
        Due.is("it is not LOST: lay", x.lay(2, 1, 0, 0), INDEX);
        Due.is("get", x.get(2, 1, 0), LEAST);
        Due.is("count 8", x.count(8), 2);
        Due.is("read", x.read(2), 0);
        Due.is("write", x.write(0, 2), 0);
        Due.is("copy of none", x.copy(2, 0, 2, 0, 0), 1);
        Due.is("copy of one", x.copy(2, 0, 2, 0, 1), INDEX);
        Due.is("lose", x.lose(2), 0);
        Due.is("now it is LOST", x.lose(2), NULL);
    }

    private static void lost() {
        Due.of("31: It is LOST: how many items it had. NULL");
        for (int s = 0; s < 4; s++) {
            RosetteShow x = new RosetteShow();
            for (int other = 0; other < 4; other++) {
                x.sheet(other, 0, 10 + other);
            }
            Due.is("lose", x.lose(s), 10 + s);
            Due.is("no FINDING", x.count(8), 0);
            Due.is("lose again", x.lose(s), NULL);
            for (int other = 0; other < 4; other++) {
                Due.is("lose of the others", x.lose(other), other == s ? NULL : 10 + other);
            }
        }
    }

    private static void numbersOfLoseNotAsTold() {
        Due.of("31: BAD");
        RosetteShow x = new RosetteShow();
        for (int wrong : new int[] {-1, 4, LEAST, MOST}) {
            Due.is("SHEET " + wrong, x.lose(wrong), -2);
        }
        Due.is("BAD is no FINDING", x.count(8), 0);
    }

    private static void laidAtTheEnds() {
        Due.of("32: Item i. INDEX");
        for (int items : new int[] {1, 2, 59, 60}) {
            RosetteShow x = row(2, items);
            Due.is("the first", x.lay(0, 2, 0, 70), 1);
            Due.is("the last", x.lay(0, 2, items - 1, 80), 1);
            Due.is("it became so", x.get(0, 2, items - 1), 80);
            for (int wrong : new int[] {-1, items, LEAST, MOST}) {
                Due.is("item " + wrong, x.lay(0, 2, wrong, 0), INDEX);
            }
            Due.is("count 8", x.count(8), 2);
        }
    }

    private static void laid(int form, int[] values, int[] due) {
        RosetteShow x = new RosetteShow();
        x.sheet(1, form, 1);
        for (int i = 0; i < values.length; i++) {
            Due.is("lay of " + values[i], x.lay(1, form, 0, values[i]), 1);
            Due.is("get of " + values[i], x.get(1, form, 0), due[i]);
        }
    }

    private static void bytes() {
        Due.of("32: v (the lowest bits that it has, with its sign): bytes");
        laid(0, new int[] {127, 128, 255, 256, 383, 384, -128, -129, -256, -257, MOST, LEAST, LEAST + 127, 32768},
            new int[] {127, -128, -1, 0, 127, -128, -128, 127, 0, -1, -1, 0, 127, 0});
    }

    private static void shorts() {
        Due.of("32: v (the lowest bits that it has, with its sign): shorts");
        laid(1, new int[] {128, 255, 32767, 32768, 65535, 65536, -32768, -32769, MOST, LEAST, LEAST + 32767},
            new int[] {128, 255, 32767, -32768, -1, 0, -32768, 32767, -1, 0, 32767});
    }

    private static void ints() {
        Due.of("32: v (the lowest bits that it has, with its sign): ints");
        int[] values = {128, 32768, 65536, -1, MOST, LEAST, LEAST + 1};
        laid(2, values, values);
    }

    private static void refusalsOfLayInTheirOrder() {
        Due.of("32: BAD; NULL; CAST; INDEX");
        RosetteShow x = row(1, 3);
        for (int wrong : new int[] {-1, 4, LEAST, MOST}) {
            Due.is("SHEET " + wrong, x.lay(wrong, 1, 0, 0), -2);
        }
        for (int wrong : new int[] {-1, 3, LEAST, MOST}) {
            Due.is("FORM " + wrong, x.lay(0, wrong, 0, 0), -2);
            Due.is("FORM " + wrong + " ahead of NULL", x.lay(1, wrong, -1, 0), -2);
        }
        Due.is("BAD is no FINDING", x.count(8), 0);
        Due.is("NULL ahead of INDEX", x.lay(1, 1, -1, 0), NULL);
        Due.is("CAST ahead of INDEX", x.lay(0, 2, 3, 0), CAST);
        Due.is("CAST", x.lay(0, 0, 0, 0), CAST);
        Due.is("INDEX", x.lay(0, 1, 3, 0), INDEX);
    }

    private static void aRefusedLayChangesNothing() {
        Due.of("they change nothing but count() 8");
        RosetteShow x = row(1, 3);
        x.lay(0, 0, 1, 99);
        x.lay(0, 2, 1, 99);
        x.lay(0, 1, 3, 99);
        x.lay(0, 1, -1, 99);
        x.lay(1, 1, 0, 99);
        for (int i = 0; i < 3; i++) {
            Due.is("item " + i, x.get(0, 1, i), i + 1);
        }
        Due.is("the other SHEET is LOST yet", x.lose(1), NULL);
    }

    private static void gotAtTheEnds() {
        Due.of("33: Item i of it. INDEX");
        for (int items : new int[] {1, 60}) {
            RosetteShow x = row(1, items);
            Due.is("the first", x.get(0, 1, 0), 1);
            Due.is("the last", x.get(0, 1, items - 1), items);
            Due.is("no FINDING", x.count(8), 0);
            for (int wrong : new int[] {-1, items, LEAST, MOST}) {
                Due.is("item " + wrong, x.get(0, 1, wrong), LEAST);
            }
            Due.is("count 8", x.count(8), 2);
        }
    }

    private static void found(int form, int s, int item, int due) {
        RosetteShow x = row(1, 3);
        Due.is("get(" + s + ", " + form + ", " + item + ")", x.get(s, form, item), LEAST);
        Due.is("count 8 of get(" + s + ", " + form + ", " + item + ")", x.count(8), due);
    }

    private static void refusalsOfGetInTheirOrder() {
        Due.of("33: BAD: the least int; so are NULL, CAST, INDEX (count() 8 tells)");
        for (int wrong : new int[] {-1, 4, LEAST, MOST}) {
            found(1, wrong, 0, 0);
        }
        for (int wrong : new int[] {-1, 3, LEAST, MOST}) {
            found(wrong, 0, 0, 0);
            found(wrong, 1, 0, 0);
        }
        found(1, 1, 0, 1);
        found(0, 1, -1, 1);
        found(0, 0, 0, 3);
        found(2, 0, -1, 3);
        found(1, 0, 3, 2);
        found(1, 0, -1, 2);
    }

    private static void theLeastIntAsAnItem() {
        Due.of("33: (count() 8 tells)");
        RosetteShow x = row(2, 3);
        x.lay(0, 2, 1, LEAST);
        Due.is("an item that is the least int", x.get(0, 2, 1), LEAST);
        Due.is("is no FINDING", x.count(8), 0);
        x.get(0, 2, 3);
        Due.is("beyond the end", x.count(8), 2);
        x.get(0, 2, 1);
        Due.is("the latest stays", x.count(8), 2);
    }

    private static void copiedWhole() {
        Due.of("34: n items of SHEET s, from i on, come to SHEET t, from j on");
        for (int form = 0; form < 3; form++) {
            RosetteShow x = row(form, 60);
            x.sheet(3, form, 60);
            Due.is("all 60", x.copy(0, 0, 3, 0, 60), 1);
            for (int i = 0; i < 60; i++) {
                Due.is("item " + i, x.get(3, form, i), i + 1);
            }
            Due.is("the first to the last", x.copy(0, 0, 3, 59, 1), 1);
            Due.is("the last to the first", x.copy(0, 59, 3, 0, 1), 1);
            Due.is("the last", x.get(3, form, 59), 1);
            Due.is("the first", x.get(3, form, 0), 60);
            Due.is("its neighbour", x.get(3, form, 1), 2);
            Due.is("what was copied stays", x.get(0, form, 59), 60);
        }
    }

    private static void copiedWithinOneSheet() {
        Due.of("34: SHEET t (perhaps s, as they were)");
        for (int by = 0; by <= 6; by++) {
            RosetteShow up = row(2, 6);
            RosetteShow down = row(2, 6);
            Due.is("up by " + by, up.copy(0, 0, 0, by, 6 - by), 1);
            Due.is("down by " + by, down.copy(0, by, 0, 0, 6 - by), 1);
            for (int i = 0; i < 6; i++) {
                Due.is("item " + i + " up by " + by, up.get(0, 2, i), i < by ? i + 1 : i - by + 1);
                Due.is("item " + i + " down by " + by, down.get(0, 2, i), i < 6 - by ? i + by + 1 : i + 1);
            }
        }
    }

    private static void copiedNone() {
        Due.of("34: (with n 0, too, if i or j is above how many there are)");
        RosetteShow x = row(2, 5);
        x.sheet(1, 2, 3);
        Due.is("at both ends", x.copy(0, 5, 1, 3, 0), 1);
        Due.is("at the first", x.copy(0, 0, 1, 0, 0), 1);
        Due.is("i above", x.copy(0, 6, 1, 3, 0), INDEX);
        Due.is("j above", x.copy(0, 5, 1, 4, 0), INDEX);
        Due.is("i far above", x.copy(0, MOST, 1, 3, 0), INDEX);
        Due.is("j far above", x.copy(0, 5, 1, MOST, 0), INDEX);
        Due.is("i below", x.copy(0, -1, 1, 3, 0), INDEX);
        Due.is("j below", x.copy(0, 5, 1, -1, 0), INDEX);
        for (int i = 0; i < 3; i++) {
            Due.is("item " + i, x.get(1, 2, i), 0);
        }
    }

    private static void refusedCopy(int i, int j, int n) {
        RosetteShow x = row(2, 5);
        x.sheet(1, 2, 3);
        Due.is("copy(0, " + i + ", 1, " + j + ", " + n + ")", x.copy(0, i, 1, j, n), INDEX);
        Due.is("count 8", x.count(8), 2);
        for (int k = 0; k < 3; k++) {
            Due.is("item " + k + " stays", x.get(1, 2, k), 0);
        }
        Due.is("within one SHEET", x.copy(0, i, 0, j, n + (n > 2 && n < 6 ? 3 : 0)), INDEX);
        for (int k = 0; k < 5; k++) {
            Due.is("item " + k + " stays", x.get(0, 2, k), k + 1);
        }
    }

    private static void copiedTooFar() {
        Due.of("34: INDEX: not so many");
        refusedCopy(0, 0, 4);
        refusedCopy(0, 0, 6);
        refusedCopy(3, 0, 3);
        refusedCopy(0, 1, 3);
        refusedCopy(0, 0, MOST);
        refusedCopy(1, 1, MOST);
        refusedCopy(5, 3, MOST);
        refusedCopy(MOST, 0, 1);
        refusedCopy(0, MOST, 1);
        refusedCopy(MOST, MOST, MOST);
    }

    private static void copiedBelow0() {
        Due.of("34: INDEX: below 0");
        refusedCopy(-1, 0, 1);
        refusedCopy(0, -1, 1);
        refusedCopy(0, 0, -1);
        refusedCopy(2, 2, -2);
        refusedCopy(LEAST, 0, 1);
        refusedCopy(0, LEAST, 1);
        refusedCopy(0, 0, LEAST);
        refusedCopy(1, 1, LEAST);
        refusedCopy(LEAST, LEAST, LEAST);
        refusedCopy(-1, -1, MOST);
    }

    private static void refusalsOfCopyInTheirOrder() {
        Due.of("34: BAD: the SHEETS; NULL: s, t; STORE; INDEX");
        RosetteShow x = row(2, 5);
        x.sheet(1, 0, 5);
        for (int wrong : new int[] {-1, 4, LEAST, MOST}) {
            Due.is("s " + wrong, x.copy(wrong, 0, 0, 0, 0), -2);
            Due.is("t " + wrong, x.copy(0, 0, wrong, 0, 0), -2);
            Due.is("s " + wrong + " ahead of NULL", x.copy(wrong, 0, 2, 0, 0), -2);
            Due.is("t " + wrong + " ahead of NULL", x.copy(2, 0, wrong, 0, 0), -2);
        }
        Due.is("BAD is no FINDING", x.count(8), 0);
        Due.is("NULL of s, ahead of INDEX", x.copy(2, -1, 0, 0, 0), NULL);
        Due.is("NULL of t, ahead of INDEX", x.copy(0, -1, 2, 0, 0), NULL);
        Due.is("NULL of both", x.copy(2, 0, 3, 0, 0), NULL);
        Due.is("NULL of the same", x.copy(3, 0, 3, 0, 0), NULL);
        Due.is("STORE ahead of INDEX", x.copy(0, -1, 1, -1, -1), STORE);
        Due.is("INDEX", x.copy(0, -1, 0, 0, 1), INDEX);
    }

    private static void storeBetweenUnlikeForms() {
        Due.of("4 STORE: unlike FORMS");
        RosetteShow x = new RosetteShow();
        for (int s = 0; s < 3; s++) {
            x.sheet(s, s, 4);
        }
        for (int s = 0; s < 3; s++) {
            for (int t = 0; t < 3; t++) {
                Due.is("copy from " + s + " to " + t, x.copy(s, 0, t, 0, 4), s == t ? 1 : STORE);
                Due.is("copy of none from " + s + " to " + t, x.copy(s, 0, t, 0, 0), s == t ? 1 : STORE);
            }
        }
        Due.is("count 8", x.count(8), 4);
    }

    private static void writtenAsManyAsThereAre() {
        Due.of("35: from item 0 on, as many as there are items, 12 at most: how many");
        for (int items = 0; items <= 60; items++) {
            RosetteShow x = row(2, items);
            Due.tell(x, 0, "s90;s80");
            Due.tell(x, 1, "c14");
            Due.is("write to " + items, x.write(1, 0), Math.min(items, 12));
            for (int i = 0; i < items; i++) {
                Due.is("item " + i + " of " + items, x.get(0, 2, i), i < 12 ? 2 * i + 2 : i + 1);
            }
        }
    }

    private static void writtenInEachForm() {
        Due.of("35: (of each the lowest bits that an item has, with its sign)");
        for (int form = 0; form < 3; form++) {
            for (int s = 0; s < 4; s++) {
                RosetteShow x = Due.show("s30;s30;s30;s30;s30;s30;s30;s30;s30;s95", "s91", "");
                x.event(2, 11, 0);
                x.sheet(s, form, 12);
                Due.is("write", x.write(9, s), 12);
                for (int week = 0; week < 12; week++) {
                    Due.is("COLOUR behind " + week, x.get(s, form, week), x.at(week, 9, 1));
                }
                Due.is("the most there is, and RAIN", x.get(s, form, 11), 35);
            }
        }
    }

    private static void refusalsOfWriteInTheirOrder() {
        Due.of("35: BAD; NULL");
        RosetteShow x = Due.show("s90;s80", "c14", "");
        x.sheet(0, 0, 3);
        for (int wrong : new int[] {-1, 2, 9, LEAST, MOST}) {
            Due.is("THING " + wrong, x.write(wrong, 0), -2);
            Due.is("THING " + wrong + " ahead of NULL", x.write(wrong, 1), -2);
        }
        for (int wrong : new int[] {-1, 4, LEAST, MOST}) {
            Due.is("SHEET " + wrong, x.write(0, wrong), -2);
        }
        Due.is("BAD is no FINDING", x.count(8), 0);
        Due.is("nothing is written", x.get(0, 0, 0), 0);
        for (int s = 1; s < 4; s++) {
            Due.is("NULL", x.write(1, s), NULL);
        }
        Due.is("count 8", x.count(8), 1);
    }

    private static void theLatestFinding() {
        Due.of("36: 8 the number of the latest FINDING (0 before any)");
        RosetteShow x = row(1, 3);
        x.sheet(1, 0, 3);
        Due.is("before any", x.count(8), 0);
        x.type(3, 0);
        x.undo(0);
        x.back();
        Due.is("BAD and NOT are none", x.count(8), 0);
        x.read(3);
        Due.is("NULL", x.count(8), 1);
        x.copy(0, 0, 1, 0, 1);
        Due.is("STORE", x.count(8), 4);
        x.lay(0, 1, 3, 0);
        Due.is("INDEX", x.count(8), 2);
        x.sheet(0, 0, -1);
        Due.is("SIZE", x.count(8), 5);
        x.lay(0, 2, 0, 0);
        Due.is("CAST", x.count(8), 3);
        x.lay(0, 1, 0, 5);
        x.lose(0);
        x.count(9);
        x.digest();
        Due.is("what goes well leaves it", x.count(8), 3);
        x.lose(0);
        Due.is("NULL again", x.count(8), 1);
    }
}
