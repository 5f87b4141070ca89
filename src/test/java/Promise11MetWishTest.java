/** Promise 11: met of one wish. */
public final class Promise11MetWishTest {
    public static void main(String[] args) {
        Answers.runTests(Promise11MetWishTest.class);
    }

    static void justAsLongIsMetAndOneLongerIsNot(Answers a) {
        RoomLayouts x = Layouts.ordered("01|", "4x3", "2x6");
        x.wish(0, 1, 2);
        x.wish(0, 1, 3);
        x.wish(0, 1, 4);
        x.wish(1, 0, 3);
        x.wish(1, 0, 4);
        boolean[] due = {true, true, false, true, false};
        for (int wish = 0; wish < due.length; wish++) {
            a.due("met(" + wish + ")", due[wish], x.met(wish));
        }
    }

    static void theLongestWishes(Answers a) {
        RoomLayouts x = Layouts.ordered("01|2|", "1x60", "1x60", "1x59");
        x.wish(0, 1, 60);
        x.wish(1, 2, 60);
        x.wish(1, 2, 59);
        a.due("60 of 60", true, x.met(0));
        a.due("60 of 59", false, x.met(1));
        a.due("59 of 59", true, x.met(2));
    }

    static void aCornerMeetsNoWish(Answers a) {
        RoomLayouts x = Layouts.ordered("01|23|-", "2x2", "2x2", "2x2", "2x2");
        x.wish(0, 3, 1);
        x.wish(1, 2, 1);
        x.wish(0, 2, 1);
        a.due("a corner", false, x.met(0));
        a.due("the other corner", false, x.met(1));
        a.due("a wall", true, x.met(2));
    }

    static void notMetWithoutAnOrder(Answers a) {
        RoomLayouts x = Layouts.with("2x2", "2x2");
        x.wish(0, 1, 1);
        a.due("met(0)", false, x.met(0));
    }

    static void notMetIfNoChoiceFits(Answers a) {
        RoomLayouts x = Layouts.ordered("01|", "2x2", "2x2");
        x.wish(0, 1, 1);
        a.due("as long as it fits", true, x.met(0));
        x.lot(3, 400);
        a.due("one too wide", false, x.met(0));
        x.lot(4, 2);
        a.due("just as large", true, x.met(0));
    }

    static void notMetIfEitherIsNotInTheOrder(Answers a) {
        RoomLayouts x = Layouts.ordered("0", "2x2", "2x2", "");
        x.wish(0, 1, 1);
        x.wish(1, 0, 1);
        x.wish(0, 2, 1);
        x.wish(1, 2, 1);
        for (int wish = 0; wish < 4; wish++) {
            a.due("met(" + wish + ")", false, x.met(wish));
        }
        Layouts.order(x, "01-");
        a.due("both in it now", true, x.met(0));
        a.due("both in it now, the other way round", true, x.met(1));
    }

    static void noSuchWishIsIllegalArgument(Answers a) {
        RoomLayouts x = Layouts.ordered("01|", "2x2", "2x2");
        a.illegalOutside("without wishes", 0, -1, wish -> Layouts.number(x.met(wish)));
        for (int count = 1; count <= 10; count++) {
            x.wish(0, 1, 1);
            a.illegalOutside(count + " wishes", 0, count - 1,
                    wish -> Layouts.number(x.met(wish)));
            a.due("the last of " + count, true, x.met(count - 1));
        }
        a.due("the first of ten", true, x.met(0));
    }
}
