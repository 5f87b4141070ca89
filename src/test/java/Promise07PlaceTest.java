/** Promise 7: place. */
public final class Promise07PlaceTest {
    public static void main(String[] args) {
        Answers.runTests(Promise07PlaceTest.class);
    }

    static void sizeCornerWidthAndHeight(Answers a) {
        RoomLayouts x = Layouts.ordered("012-|", "9x9 1x1", "4x3", "8x8 7x7 6x6 2x6");
        a.duePlace("left", x, 0, 1, 0, 0, 1, 1);
        a.duePlace("right", x, 1, 0, 1, 0, 4, 3);
        a.duePlace("right and above", x, 2, 3, 1, 3, 2, 6);
    }

    static void allSixRooms(Answers a) {
        RoomLayouts x = Layouts.ordered("01|23|-45-|", "1x1", "2x2", "3x3", "4x4", "5x5", "6x6");
        a.duePlace("0", x, 0, 0, 0, 0, 1, 1);
        a.duePlace("1", x, 1, 0, 1, 0, 2, 2);
        a.duePlace("2", x, 2, 0, 0, 2, 3, 3);
        a.duePlace("3", x, 3, 0, 3, 2, 4, 4);
        a.duePlace("4", x, 4, 0, 7, 0, 5, 5);
        a.duePlace("5", x, 5, 0, 7, 5, 6, 6);
    }

    static void theFarthestCorners(Answers a) {
        RoomLayouts x = Layouts.withSix("60x60");
        Layouts.order(x, "01|2|3|4|5|");
        a.duePlace("the rightmost", x, 5, 0, 300, 0, 60, 60);
        Layouts.order(x, "01-2-3-4-5-");
        a.duePlace("the uppermost", x, 5, 0, 0, 300, 60, 60);
    }

    static void noneWithoutAnOrder(Answers a) {
        RoomLayouts x = Layouts.with("1x1", "");
        a.dueNoPlace("a room with a size", x, 0);
        a.dueNoPlace("a room without one", x, 1);
    }

    static void noneIfNoChoiceFits(Answers a) {
        RoomLayouts x = Layouts.ordered("01|", "4x3", "2x5");
        a.duePlace("as long as it fits", x, 1, 0, 4, 0, 2, 5);
        x.lot(5, 400);
        a.dueNoPlace("one too wide", x, 0);
        a.dueNoPlace("one too wide", x, 1);
        x.lot(400, 4);
        a.dueNoPlace("one too high", x, 0);
        x.lot(6, 5);
        a.duePlace("just as large", x, 1, 0, 4, 0, 2, 5);
    }

    static void noneIfItIsNotInTheOrder(Answers a) {
        RoomLayouts x = Layouts.ordered("02|", "1x1", "1x1", "1x1", "");
        a.dueNoPlace("with a size", x, 1);
        a.dueNoPlace("without a size", x, 3);
        Layouts.order(x, "01|");
        a.dueNoPlace("no longer in it", x, 2);
        a.duePlace("now in it", x, 1, 0, 1, 0, 1, 1);
    }

    static void noSuchRoomIsIllegalArgument(Answers a) {
        RoomLayouts x = Layouts.ordered("0", "1x1", "");
        a.illegalOutside("room", 0, 1, room -> x.place(room, 0));
        RoomLayouts all = Layouts.withSix("1x1");
        a.illegalOutside("room of six", 0, 5, room -> all.place(room, 4));
    }

    static void anotherWhatIsIllegalArgument(Answers a) {
        RoomLayouts x = Layouts.ordered("0", "1x1", "");
        a.illegalOutside("what", 0, 4, what -> x.place(0, what));
        a.duePlace("after it", x, 0, 0, 0, 0, 1, 1);
    }

    static void illegalArgumentAlsoWhereTheAnswerWouldBeNone(Answers a) {
        RoomLayouts x = Layouts.with("1x1", "");
        a.illegalOutside("what without an order", 0, 4, what -> x.place(0, what));
        Layouts.order(x, "0");
        a.illegalOutside("what of a room not in the order", 0, 4, what -> x.place(1, what));
        x.lot(1, 1);
        x.size(1, 2, 2);
        Layouts.order(x, "1");
        a.illegalOutside("what if no choice fits", 0, 4, what -> x.place(1, what));
        a.illegalOutside("room if no choice fits", 0, 1, room -> x.place(room, 0));
    }

    static void readingPlacesChangesNoOutlines(Answers a) {
        RoomLayouts x = Layouts.ordered("01-", "4x3 3x4", "2x5 5x2");
        a.dueOutlines("before", x, 3, 9, 4, 8, 5, 5);
        a.duePlace("the best", x, 0, 0, 0, 0, 4, 3);
        a.duePlace("the best", x, 1, 1, 0, 3, 5, 2);
        a.dueOutlines("after", x, 3, 9, 4, 8, 5, 5);
        a.duePlace("once more", x, 0, 0, 0, 0, 4, 3);
    }
}
