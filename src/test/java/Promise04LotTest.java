/** Promise 4: lot. */
public final class Promise04LotTest {
    public static void main(String[] args) {
        Answers.runTests(Promise04LotTest.class);
    }

    static void aWidthOutsideItsBoundsIsIllegalArgument(Answers a) {
        RoomLayouts x = Layouts.ordered("0", "4x3 3x4");
        a.illegalOutside("width", 1, 400, side -> Layouts.lot(x, side, 400));
        a.dueOutlines("none was kept", x, 3, 4, 4, 3);
    }

    static void aHeightOutsideItsBoundsIsIllegalArgument(Answers a) {
        RoomLayouts x = Layouts.ordered("0", "4x3 3x4");
        a.illegalOutside("height", 1, 400, side -> Layouts.lot(x, 400, side));
        a.dueOutlines("none was kept", x, 3, 4, 4, 3);
    }

    static void aRightSideBesideAWrongOneIsNotKept(Answers a) {
        RoomLayouts x = Layouts.ordered("0", "4x3");
        a.illegalArgument("lot(1, 401)", () -> Layouts.lot(x, 1, 401));
        a.dueBest("the width is as before", x, 4, 3);
        a.illegalArgument("lot(0, 1)", () -> Layouts.lot(x, 0, 1));
        a.dueBest("the height is as before", x, 4, 3);
        x.lot(1, 1);
        a.illegalArgument("lot(400, 0)", () -> Layouts.lot(x, 400, 0));
        a.illegalArgument("lot(401, 400)", () -> Layouts.lot(x, 401, 400));
        a.dueNoBest("the least lot is still there", x);
    }

    static void theLeastLotIs1And1(Answers a) {
        RoomLayouts x = Layouts.ordered("0", "1x2 2x1");
        x.lot(1, 1);
        a.dueNoBest("nothing so small", x);
        x.size(0, 1, 1);
        a.dueBest("one so small", x, 1, 1);
    }

    static void theGreatestLotIs400And400(Answers a) {
        RoomLayouts x = Layouts.withSix("60x60");
        x.lot(1, 1);
        x.lot(400, 400);
        Layouts.order(x, "01|2|3|4|5|");
        a.dueBest("the widest", x, 360, 60);
        Layouts.order(x, "01-2-3-4-5-");
        a.dueBest("the highest", x, 60, 360);
    }

    static void theWidthIsTheFirst(Answers a) {
        RoomLayouts x = Layouts.ordered("0", "9x2 2x9");
        x.lot(400, 2);
        a.dueBest("wide and low", x, 9, 2);
        x.lot(2, 400);
        a.dueBest("narrow and high", x, 2, 9);
    }

    static void justAsLargeFitsAndOneLessDoesNot(Answers a) {
        RoomLayouts x = Layouts.withSix("60x60");
        Layouts.order(x, "01-2-3-4-5-");
        x.lot(60, 360);
        a.dueBest("just as large", x, 60, 360);
        x.lot(60, 359);
        a.dueNoBest("one too low", x);
        x.lot(59, 360);
        a.dueNoBest("one too narrow", x);
    }

    static void itCountsAtOnceAndCanGrowAgain(Answers a) {
        RoomLayouts x = Layouts.ordered("01|", "4x3 3x4", "2x5 5x2");
        a.dueBest("at first", x, 5, 5);
        a.due("room 1's corner", 3, x.place(1, 1));
        x.lot(400, 4);
        a.dueBest("a lower lot", x, 9, 3);
        a.dueOutlines("a lower lot", x, 8, 4, 9, 3);
        a.due("room 1's width in it", 5, x.place(1, 3));
        x.lot(400, 2);
        a.dueNoBest("too low for all", x);
        a.dueOutlines("too low for all", x);
        a.dueNoPlace("too low for all", x, 1);
        x.lot(400, 400);
        a.dueBest("grown again", x, 5, 5);
        a.due("room 1's corner again", 3, x.place(1, 1));
    }

    static void itHoldsForOrdersToCome(Answers a) {
        RoomLayouts x = new RoomLayouts();
        x.lot(3, 3);
        x.room();
        x.size(0, 4, 1);
        a.due("an order that does not fit is one", -1, Layouts.order(x, "0"));
        a.dueNoBest("it does not fit", x);
        a.dueSigns("it is the order", x, "0");
    }
}
