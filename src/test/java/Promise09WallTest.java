/** Promise 9: wall. */
public final class Promise09WallTest {
    public static void main(String[] args) {
        Answers.runTests(Promise09WallTest.class);
    }

    static void howLongItIsEitherWayRound(Answers a) {
        RoomLayouts x = Layouts.ordered("01|2-", "4x3", "2x6", "5x5");
        a.due("left and right", 3, x.wall(0, 1));
        a.due("right and left", 3, x.wall(1, 0));
        a.due("below and above", 1, x.wall(1, 2));
        a.due("above and below", 1, x.wall(2, 1));
    }

    static void zeroIfTheyShareNone(Answers a) {
        RoomLayouts x = Layouts.ordered("01|2-", "4x3", "2x6", "5x5");
        a.due("a gap between", 0, x.wall(0, 2));
        a.due("a gap between, from above", 0, x.wall(2, 0));
        RoomLayouts row = Layouts.ordered("01|2|", "2x2", "1x2", "2x2");
        a.due("another room between", 0, row.wall(0, 2));
    }

    static void zeroAtACorner(Answers a) {
        RoomLayouts x = Layouts.ordered("01-23-|", "2x2", "2x2", "2x2", "2x2");
        a.due("lower left and upper right", 0, x.wall(0, 3));
        a.due("upper left and lower right", 0, x.wall(1, 2));
    }

    static void theShortestAndTheLongest(Answers a) {
        a.due("1", 1, Layouts.ordered("01|", "60x1", "60x60").wall(0, 1));
        a.due("60 side by side", 60, Layouts.ordered("01|", "1x60", "1x60").wall(0, 1));
        a.due("60 one above another", 60, Layouts.ordered("01-", "60x1", "60x1").wall(1, 0));
    }

    static void noneWithoutAnOrder(Answers a) {
        RoomLayouts x = Layouts.with("1x1", "1x1", "");
        a.due("with sizes", -1, x.wall(0, 1));
        a.due("without a size", -1, x.wall(0, 2));
    }

    static void noneIfNoChoiceFits(Answers a) {
        RoomLayouts x = Layouts.ordered("01|", "2x2", "2x2");
        a.due("as long as it fits", 2, x.wall(0, 1));
        x.lot(3, 400);
        a.due("one too wide", -1, x.wall(0, 1));
        x.lot(400, 1);
        a.due("one too high", -1, x.wall(1, 0));
        x.lot(4, 2);
        a.due("just as large", 2, x.wall(0, 1));
    }

    static void noneIfEitherIsNotInTheOrder(Answers a) {
        RoomLayouts x = Layouts.ordered("01|", "1x1", "1x1", "1x1", "");
        a.due("the second one is not", -1, x.wall(0, 2));
        a.due("the first one is not", -1, x.wall(2, 0));
        a.due("the second one has no size", -1, x.wall(0, 3));
        a.due("the first one has no size", -1, x.wall(3, 0));
        a.due("neither is", -1, x.wall(2, 3));
    }

    static void bothOneIsIllegalArgument(Answers a) {
        RoomLayouts x = Layouts.ordered("01|", "1x1", "1x1", "1x1", "");
        for (int room = 0; room < 4; room++) {
            int both = room;
            a.illegalArgument("wall(" + room + ", " + room + ")", () -> x.wall(both, both));
            a.illegalArgument("the same without an order",
                    () -> Layouts.with("1x1", "1x1", "1x1", "").wall(both, both));
        }
    }

    static void noSuchRoomIsIllegalArgument(Answers a) {
        RoomLayouts x = Layouts.ordered("01|", "1x1", "1x1");
        a.illegalOutside("the first", 0, 1, room -> x.wall(room, 0));
        a.illegalOutside("the second", 0, 1, room -> x.wall(1, room));
        a.illegalOutside("both", 0, 1, room -> x.wall(room, room));
        RoomLayouts all = Layouts.withSix("1x1");
        a.illegalOutside("the first of six", 0, 5, room -> all.wall(room, 0));
        a.illegalOutside("the second of six", 0, 5, room -> all.wall(5, room));
    }
}
