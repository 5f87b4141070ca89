/** Promise 10: wish. */
public final class Promise10WishTest {
    public static void main(String[] args) {
        Answers.runTests(Promise10WishTest.class);
    }

    static void itsNumberIsAnswered(Answers a) {
        RoomLayouts x = Layouts.with("2x2", "", "3x3");
        for (int k = 0; k < 10; k++) {
            a.due("wish", k, x.wish(k % 3, (k + 1) % 3, 1 + k));
        }
    }

    static void theTenthIsThere(Answers a) {
        RoomLayouts x = Layouts.ordered("01|", "2x2", "2x2");
        for (int k = 0; k < 9; k++) {
            x.wish(0, 1, 3);
        }
        a.due("the tenth", 9, x.wish(0, 1, 2));
        a.due("met(8)", false, x.met(8));
        a.due("met(9)", true, x.met(9));
    }

    static void anEleventhIsIllegalState(Answers a) {
        RoomLayouts x = Layouts.ordered("01|", "2x2", "2x2");
        for (int k = 0; k < 10; k++) {
            x.wish(0, 1, 3);
        }
        a.illegalState("the eleventh", () -> x.wish(0, 1, 1));
        a.illegalState("once more", () -> x.wish(1, 0, 60));
        a.due("none was kept", 0, x.met());
        a.illegalArgument("met(10)", () -> Layouts.number(x.met(10)));
    }

    static void theSameWishAgainHasANumberOfItsOwn(Answers a) {
        RoomLayouts x = Layouts.with("2x2", "2x2");
        a.due("the first", 0, x.wish(0, 1, 2));
        a.due("the same", 1, x.wish(0, 1, 2));
        a.due("the other way round", 2, x.wish(1, 0, 2));
    }

    static void roomsWithoutSizesOrNotInTheOrderMayBeWished(Answers a) {
        RoomLayouts x = Layouts.ordered("0", "2x2", "3x3", "");
        a.due("not in the order", 0, x.wish(0, 1, 1));
        a.due("without a size", 1, x.wish(2, 1, 1));
        a.due("without an order", 0, Layouts.with("", "").wish(0, 1, 1));
    }

    static void bothOneIsIllegalArgument(Answers a) {
        RoomLayouts x = Layouts.with("2x2", "");
        a.illegalArgument("wish(0, 0, 1)", () -> x.wish(0, 0, 1));
        a.illegalArgument("wish(1, 1, 1)", () -> x.wish(1, 1, 1));
        a.due("none was kept", 0, x.wish(0, 1, 1));
    }

    static void noSuchRoomIsIllegalArgument(Answers a) {
        RoomLayouts x = Layouts.with("2x2", "");
        a.illegalOutside("the first", 0, 1, room -> x.wish(room, 0, 1));
        a.illegalOutside("the second", 0, 1, room -> x.wish(1, room, 1));
        a.illegalOutside("both", 0, 1, room -> x.wish(room, room, 1));
        a.due("none was kept", 0, x.wish(0, 1, 1));
        RoomLayouts all = Layouts.withSix("1x1");
        a.illegalOutside("the first of six", 0, 5, room -> all.wish(room, 0, 1));
        a.illegalOutside("the second of six", 0, 5, room -> all.wish(0, room, 1));
        a.due("the last two rooms", 0, all.wish(4, 5, 1));
    }

    static void aLengthOutsideItsBoundsIsIllegalArgument(Answers a) {
        RoomLayouts x = Layouts.with("2x2", "");
        a.illegalOutside("length", 1, 60, length -> x.wish(0, 1, length));
        a.due("the least", 0, x.wish(0, 1, 1));
        a.due("the greatest", 1, x.wish(0, 1, 60));
    }

    static void illegalArgumentGoesBeforeIllegalState(Answers a) {
        RoomLayouts x = Layouts.with("2x2", "2x2");
        for (int k = 0; k < 10; k++) {
            x.wish(0, 1, 1);
        }
        a.illegalOutside("the first of an eleventh", 0, 1, room -> x.wish(room, 1, 1));
        a.illegalOutside("the second of an eleventh", 0, 1, room -> x.wish(0, room, 1));
        a.illegalOutside("the length of an eleventh", 1, 60, length -> x.wish(0, 1, length));
        a.illegalArgument("an eleventh of one", () -> x.wish(1, 1, 1));
    }

    static void aWishChangesNeitherOrderNorBest(Answers a) {
        RoomLayouts x = Layouts.ordered("01|", "2x5 3x3", "2x5 3x3");
        x.wish(0, 1, 5);
        a.dueBest("the best does not heed wishes", x, 6, 3);
        a.dueSigns("after it", x, "01|");
    }
}
