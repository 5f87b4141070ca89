/** Promise 3: size. */
public final class Promise03SizeTest {
    public static void main(String[] args) {
        Answers.runTests(Promise03SizeTest.class);
    }

    static void itsNumberIsAnswered(Answers a) {
        RoomLayouts x = Layouts.with("", "");
        a.due("room 1's first", 0, x.size(1, 5, 5));
        a.due("room 0's first", 0, x.size(0, 5, 5));
        a.due("room 1's second", 1, x.size(1, 6, 6));
        a.due("room 1's third", 2, x.size(1, 7, 7));
        a.due("room 0's second", 1, x.size(0, 6, 6));
    }

    static void theSameSizeAgainHasANumberOfItsOwn(Answers a) {
        RoomLayouts x = Layouts.with("2x2");
        a.due("the same again", 1, x.size(0, 2, 2));
        a.due("and again", 2, x.size(0, 2, 2));
    }

    static void theFourthIsThere(Answers a) {
        RoomLayouts x = Layouts.with("9x9 8x8 7x7");
        a.due("the fourth", 3, x.size(0, 2, 1));
        Layouts.order(x, "0");
        a.duePlace("the fourth", x, 0, 3, 0, 0, 2, 1);
    }

    static void aFifthIsIllegalState(Answers a) {
        RoomLayouts x = Layouts.ordered("0", "9x9 8x8 7x7 6x6", "5x5");
        a.illegalState("the fifth", () -> x.size(0, 1, 1));
        a.illegalState("once more", () -> x.size(0, 60, 60));
        a.dueBest("no fifth is kept", x, 6, 6);
        a.due("another room's second", 1, x.size(1, 4, 4));
    }

    static void theLastRoomTakesFour(Answers a) {
        RoomLayouts x = Layouts.with("1x1", "1x1", "1x1", "1x1", "1x1", "");
        for (int size = 0; size < 4; size++) {
            a.due("size of room 5", size, x.size(5, 9 - size, 9));
        }
        a.illegalState("the fifth of room 5", () -> x.size(5, 1, 1));
        Layouts.order(x, "5");
        a.duePlace("room 5", x, 5, 3, 0, 0, 6, 9);
    }

    static void aWidthOutsideItsBoundsIsIllegalArgument(Answers a) {
        RoomLayouts x = Layouts.with("", "7x7");
        a.illegalOutside("width", 1, 60, side -> x.size(0, side, 1));
        a.due("none was kept", 0, Layouts.order(x, "0"));
        a.due("the least", 0, x.size(0, 1, 2));
        a.due("the greatest", 1, x.size(0, 60, 2));
    }

    static void aHeightOutsideItsBoundsIsIllegalArgument(Answers a) {
        RoomLayouts x = Layouts.with("", "7x7");
        a.illegalOutside("height", 1, 60, side -> x.size(0, 1, side));
        a.due("none was kept", 0, Layouts.order(x, "0"));
        a.due("the least", 0, x.size(0, 2, 1));
        a.due("the greatest", 1, x.size(0, 2, 60));
    }

    static void noSuchRoomIsIllegalArgument(Answers a) {
        RoomLayouts x = Layouts.with("", "7x7");
        a.illegalOutside("room", 0, 1, room -> x.size(room, 1, 1));
        RoomLayouts all = Layouts.withSix("1x1");
        a.illegalOutside("room of six", 0, 5, room -> all.size(room, 1, 1));
    }

    static void illegalArgumentGoesBeforeIllegalState(Answers a) {
        RoomLayouts x = Layouts.with("1x1 1x1 1x1 1x1");
        a.illegalOutside("width of a fifth", 1, 60, side -> x.size(0, side, 1));
        a.illegalOutside("height of a fifth", 1, 60, side -> x.size(0, 1, side));
    }

    static void aSizeOfARoomInTheOrderCountsAtOnce(Answers a) {
        RoomLayouts x = Layouts.ordered("01|", "4x4", "4x4");
        a.dueBest("before", x, 8, 4);
        a.due("place before", 4, x.place(1, 1));
        x.size(0, 1, 4);
        a.dueBest("after", x, 5, 4);
        a.duePlace("after", x, 0, 1, 0, 0, 1, 4);
        a.duePlace("after", x, 1, 0, 1, 0, 4, 4);
        a.dueOutlines("after", x, 5, 4);
        a.dueSigns("after", x, "01|");
    }

    static void aSizeOfARoomNotInTheOrderChangesNoBest(Answers a) {
        RoomLayouts x = Layouts.ordered("0", "4x4", "");
        x.size(1, 1, 1);
        a.dueBest("after", x, 4, 4);
        a.dueSigns("after", x, "0");
    }
}
