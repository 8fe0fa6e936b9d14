/** What README.md shows: its example, and the numbers that it names for refusals. */
final class ReadmeTests {
    public static void main(String[] args) {
        example();
        refusals();
        Due.end();
    }

    private static void example() {
        RosetteShow show = Due.show("s50;c71;w82", "w31;c20", "0010");
        Due.is("event(2, 3, 0)", show.event(2, 3, 0), 1);
        Due.is("place(0, 0)", show.place(0, 0), 2);
        Due.is("best()", show.best(), 1);
    }

    private static void refusals() {
        RosetteShow show = new RosetteShow();
        Due.is("a number not as told", show.wipe(3), RosetteShow.BAD);
        Due.is("nothing to undo", show.undo(0), RosetteShow.NOT);
        Due.is("sheet(0, 0, 1)", show.sheet(0, 0, 1), 1);
        Due.is("sheet(1, 1, 1)", show.sheet(1, 1, 1), 1);
        Due.is("the sheet is lost", show.lose(2), -11);
        Due.is("no such item", show.lay(0, 0, 1, 0), -12);
        Due.is("another form", show.lay(0, 1, 0, 0), -13);
        Due.is("unlike forms", show.copy(0, 0, 1, 0, 1), -14);
        Due.is("a size below 0", show.sheet(0, 0, -1), -15);
        Due.is("count(8)", show.count(8), 5);
        Due.is("get of another form", show.get(0, 2, 0), Integer.MIN_VALUE);
        Due.is("count(8) behind get", show.count(8), 3);
        Due.is("chance of no such thing", show.chance(5, 0, 0), Long.MIN_VALUE + 2);
    }
}
