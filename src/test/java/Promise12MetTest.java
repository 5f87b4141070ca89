/** Promise 12: how many wishes are met. */
public final class Promise12MetTest {
    public static void main(String[] args) {
        Answers.runTests(Promise12MetTest.class);
    }

    static void onlyThoseThatAreMet(Answers a) {
        RoomLayouts x = Layouts.ordered("01|2-", "4x3", "2x6", "5x5", "1x1");
        x.wish(0, 1, 3);
        a.due("just as long", 1, x.met());
        x.wish(1, 0, 4);
        a.due("one too short", 1, x.met());
        x.wish(2, 1, 1);
        a.due("another one", 2, x.met());
        x.wish(0, 3, 1);
        a.due("one not in the order", 2, x.met());
        x.wish(0, 2, 1);
        a.due("one without a wall", 2, x.met());
    }

    static void zeroWithoutWishes(Answers a) {
        a.due("a new object", 0, new RoomLayouts().met());
        a.due("rooms in an order", 0, Layouts.ordered("01|", "2x2", "2x2").met());
    }

    static void zeroWithoutAnOrder(Answers a) {
        RoomLayouts x = Layouts.with("2x2", "2x2");
        x.wish(0, 1, 1);
        a.due("met()", 0, x.met());
    }

    static void zeroIfNoChoiceFits(Answers a) {
        RoomLayouts x = Layouts.ordered("01|", "2x2", "2x2");
        x.wish(0, 1, 1);
        a.due("as long as it fits", 1, x.met());
        x.lot(400, 1);
        a.due("one too high", 0, x.met());
        x.lot(4, 2);
        a.due("just as large", 1, x.met());
    }

    static void theSameWishTwiceCountsTwice(Answers a) {
        RoomLayouts x = Layouts.ordered("01|", "2x2", "2x2");
        x.wish(0, 1, 1);
        x.wish(0, 1, 1);
        x.wish(1, 0, 1);
        a.due("met()", 3, x.met());
    }

    static void allTenCanBeMet(Answers a) {
        RoomLayouts x = Layouts.ordered("01|", "2x2", "2x2");
        for (int k = 1; k <= 10; k++) {
            x.wish(0, 1, 2);
            a.due("met()", k, x.met());
        }
    }

    static void itCountsAnewAfterEachChange(Answers a) {
        RoomLayouts x = Layouts.ordered("01|", "2x2", "2x3", "2x2");
        x.wish(0, 1, 2);
        x.wish(0, 2, 2);
        x.wish(2, 0, 1);
        a.due("0 and 1", 1, x.met());
        x.swap(1, 2);
        a.due("0 and 2", 2, x.met());
        Layouts.order(x, "01|2|");
        a.due("1 between", 1, x.met());
        x.size(0, 2, 1);
        a.due("a lower size is there, but it is not the first", 1, x.met());
        x.lot(2, 3);
        a.due("a lot too small", 0, x.met());
    }
}
