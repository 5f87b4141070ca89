/** Promise 13: swap. */
public final class Promise13SwapTest {
    public static void main(String[] args) {
        Answers.runTests(Promise13SwapTest.class);
    }

    private static RoomLayouts rooms(String order) {
        return Layouts.ordered(order, "4x3", "2x6", "5x5", "", "7x1");
    }

    static void bothInTheOrderChangePlaces(Answers a) {
        RoomLayouts x = rooms("01|2-");
        a.dueBest("before", x, 6, 11);
        a.due("swap(0, 2)", true, x.swap(0, 2));
        a.dueSigns("after", x, "21|0-");
        a.dueBest("after", x, 7, 9);
        a.duePlace("after", x, 0, 0, 0, 6, 4, 3);
        a.duePlace("after", x, 2, 0, 0, 0, 5, 5);
        a.duePlace("after", x, 1, 0, 5, 0, 2, 6);
    }

    static void theSecondMayBeOutsideTheOrder(Answers a) {
        RoomLayouts x = rooms("01|2-");
        a.due("swap(1, 4)", true, x.swap(1, 4));
        a.dueSigns("after", x, "04|2-");
        a.dueNoPlace("gone from it", x, 1);
        a.duePlace("new in it", x, 4, 0, 4, 0, 7, 1);
    }

    static void theFirstMayBeOutsideTheOrder(Answers a) {
        RoomLayouts x = rooms("01|2-");
        a.due("swap(4, 1)", true, x.swap(4, 1));
        a.dueSigns("after", x, "04|2-");
        a.dueNoPlace("gone from it", x, 1);
    }

    static void swappedTwiceAllIsAsBefore(Answers a) {
        int[][] pairs = {{0, 1}, {1, 0}, {0, 2}, {2, 1}, {1, 4}, {4, 0}};
        for (int[] pair : pairs) {
            RoomLayouts x = rooms("01|2-");
            String before = Layouts.allOf(x, 5, 0);
            x.swap(pair[0], pair[1]);
            a.due("once is another", false, before.equals(Layouts.allOf(x, 5, 0)));
            x.swap(pair[1], pair[0]);
            a.due("twice is the same", before, Layouts.allOf(x, 5, 0));
        }
    }

    static void aRoomSwappedOutCanBeSwappedInAgain(Answers a) {
        RoomLayouts x = rooms("0");
        a.due("1 in", true, x.swap(0, 1));
        a.due("2 in", true, x.swap(1, 2));
        a.due("neither", false, x.swap(0, 1));
        a.due("0 in", true, x.swap(0, 2));
        a.dueSigns("0 in", x, "0");
    }

    static void falseWithoutAnOrder(Answers a) {
        RoomLayouts x = Layouts.with("1x1", "2x2");
        a.due("swap(0, 1)", false, x.swap(0, 1));
        a.dueSigns("after", x, "");
        a.dueNoBest("after", x);
    }

    static void falseIfNeitherIsInTheOrder(Answers a) {
        RoomLayouts x = rooms("0");
        String before = Layouts.allOf(x, 5, 0);
        a.due("swap(1, 2)", false, x.swap(1, 2));
        a.due("swap(4, 1)", false, x.swap(4, 1));
        a.due("nothing has changed", before, Layouts.allOf(x, 5, 0));
    }

    static void falseIfOneHasNoSize(Answers a) {
        RoomLayouts x = rooms("01|2-");
        String before = Layouts.allOf(x, 5, 0);
        a.due("the second has none", false, x.swap(0, 3));
        a.due("the first has none", false, x.swap(3, 2));
        a.due("the first has none, neither is in the order", false, x.swap(3, 4));
        a.due("nothing has changed", before, Layouts.allOf(x, 5, 0));
        x.size(3, 1, 1);
        a.due("now it has one", true, x.swap(3, 2));
        a.dueSigns("now it has one", x, "01|3-");
    }

    static void falseIfBothHaveNoSize(Answers a) {
        RoomLayouts x = Layouts.ordered("0", "1x1", "", "");
        a.due("swap(1, 2)", false, x.swap(1, 2));
        a.dueSigns("after", x, "0");
    }

    static void trueAlsoIfNoChoiceFitsThen(Answers a) {
        RoomLayouts x = rooms("0");
        x.lot(4, 3);
        a.dueBest("it fits", x, 4, 3);
        a.due("swap(0, 1)", true, x.swap(0, 1));
        a.dueNoBest("it does not", x);
        a.dueSigns("it does not", x, "1");
        a.due("and from there", true, x.swap(2, 1));
        a.dueSigns("and from there", x, "2");
        a.due("and back", true, x.swap(0, 2));
        a.dueBest("and back", x, 4, 3);
    }

    static void itsSizesAndWishesStayWithTheRoom(Answers a) {
        RoomLayouts x = Layouts.ordered("01|", "2x2", "3x3 2x5", "1x1");
        x.wish(1, 2, 1);
        a.due("swap(0, 2)", true, x.swap(0, 2));
        a.due("the wish", true, x.met(0));
        a.due("room 1's next size", 2, x.size(1, 9, 9));
        a.due("room 2's next size", 1, x.size(2, 9, 9));
    }

    static void bothOneIsIllegalArgument(Answers a) {
        RoomLayouts x = rooms("01|");
        int[] rooms = {0, 1, 2, 3, 4};
        for (int room : rooms) {
            a.illegalArgument("swap(" + room + ", " + room + ")",
                    () -> Layouts.number(x.swap(room, room)));
            a.illegalArgument("the same without an order",
                    () -> Layouts.number(Layouts.with("", "", "", "", "").swap(room, room)));
        }
        a.dueSigns("after", x, "01|");
    }

    static void noSuchRoomIsIllegalArgument(Answers a) {
        RoomLayouts x = rooms("01|");
        a.illegalOutside("the first", 0, 4, room -> Layouts.number(x.swap(room, 0)));
        a.illegalOutside("the second", 0, 4, room -> Layouts.number(x.swap(0, room)));
        a.illegalOutside("the first, the second without a size", 0, 4,
                room -> Layouts.number(x.swap(room, 3)));
        a.illegalOutside("both", 0, 4, room -> Layouts.number(x.swap(room, room)));
        a.dueSigns("after", x, "01|");
        RoomLayouts all = Layouts.withSix("1x1");
        a.illegalOutside("the first of six", 0, 5, room -> Layouts.number(all.swap(room, 0)));
        a.illegalOutside("the second of six", 0, 5, room -> Layouts.number(all.swap(0, room)));
    }
}
